import java.io.IOException;
import java.lang.reflect.Method;
import java.nio.file.Files;
import java.nio.file.Path;
import java.util.Arrays;
import java.util.List;
import java.util.regex.Matcher;
import java.util.regex.Pattern;
import java.util.stream.Stream;

/** What README.md shows is so: its examples answer what stands behind them, and it names every call and every test. */
public final class ReadmeTest {
    private static final Pattern NEW = Pattern.compile("NeckKnots ties = new NeckKnots\\(\\);");
    private static final Pattern PUT = Pattern.compile("put\\(ties, \"([^\"]*)\"\\);");
    private static final Pattern CALL = Pattern.compile("ties\\.(\\w+)\\(([-\\d, ]*)\\); +// (-?\\d+)(:.*)?");

    private static int wrong = 0;
    private static int examples = 0;
    private static NeckKnots ties = null;

    private static void check(String what, boolean so) {
        if (!so) {
            wrong++;
            System.out.println("README.md: " + what);
        }
    }

    static void put(NeckKnots ties, String text) {
        ties.end(0);
        for (int from = 0; from < text.length(); from += 20) {
            int[] five = new int[5];
            for (int i = 0; i < 20; i++) {
                int sign = from + i < text.length() ? text.charAt(from + i) : ' ';
                five[i / 4] = five[i / 4] << 8 | sign;
            }
            ties.feed(five[0], five[1], five[2], five[3], five[4]);
        }
        ties.end(text.length());
    }

    private static int answer(String name, String numbers) throws ReflectiveOperationException {
        Object[] args = Stream.of(numbers.split(", *")).filter(n -> !n.isEmpty()).map(Integer::valueOf).toArray();
        Class<?>[] types = new Class<?>[args.length];
        Arrays.fill(types, int.class);
        Method call = NeckKnots.class.getMethod(name, types);
        return (Integer) call.invoke(ties, args);
    }

    private static void example(String line) throws ReflectiveOperationException {
        Matcher put = PUT.matcher(line);
        Matcher call = CALL.matcher(line);
        if (NEW.matcher(line).matches()) {
            ties = new NeckKnots();
        } else if (put.matches()) {
            put(ties, put.group(1));
            check("'" + put.group(1) + "' is on the tape", ties.count(5) == put.group(1).length());
        } else if (call.matches()) {
            examples++;
            int got = answer(call.group(1), call.group(2));
            check(line + " answered " + got, got == Integer.parseInt(call.group(3)));
        } else {
            check("'" + line + "' can't be tried", line.isBlank());
        }
    }

    /** The helper is shown as it stands here. */
    private static void helper(String shown) throws IOException {
        String here = Files.readString(Path.of("src/test/java/ReadmeTest.java"));
        check("the helper put() is another one than ReadmeTest's", here.contains(shown.strip().indent(4)));
    }

    private static void names(String readme) throws IOException {
        for (Method m : NeckKnots.class.getDeclaredMethods()) {
            if (java.lang.reflect.Modifier.isPublic(m.getModifiers())) {
                check(m.getName() + "() is not named", Pattern.compile("\\b" + m.getName() + "\\(").matcher(readme).find());
            }
        }
        try (Stream<Path> files = Files.list(Path.of("src/test/java"))) {
            for (Path file : files.toList()) {
                String name = file.getFileName().toString().replace(".java", "");
                check(name + " is not named", readme.contains("`" + name + "`"));
            }
        }
        check("it tells how to run the tests", readme.contains("\n    .ci/run\n"));
    }

    public static void main(String[] args) throws IOException, ReflectiveOperationException {
        String readme = Files.readString(Path.of("README.md"));
        List<String> blocks = Pattern.compile("(?s)```java\n(.*?)```").matcher(readme).results().map(r -> r.group(1)).toList();
        for (String block : blocks) {
            if (block.startsWith("static void put(")) {
                helper(block);
            } else {
                for (String line : block.split("\n")) {
                    example(line);
                }
            }
        }
        check("there are too few examples", examples >= 30);
        names(readme);
        System.out.println(wrong == 0 ? examples + " examples of README.md are so" : wrong + " things in README.md are not so");
        if (wrong != 0) {
            System.exit(1);
        }
    }
}
