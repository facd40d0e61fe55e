import java.io.IOException;
import java.lang.reflect.Method;
import java.lang.reflect.Modifier;
import java.nio.file.Files;
import java.nio.file.Path;
import java.util.Arrays;
import java.util.Random;
import java.util.Set;
import java.util.TreeSet;
import java.util.regex.Matcher;
import java.util.regex.Pattern;
import java.util.stream.Collectors;

/** The face is the document's, the source keeps to LANGUAGE.md, no call throws, and a run needs little room. */
public final class FaceTest {
    private static final Set<String> LIBRARY = Set.of("System.arraycopy", "Math.max", "Math.min", "Math.abs");
    private static int wrong = 0;

    private static void check(String what, boolean so) {
        if (!so) {
            wrong++;
            System.out.println("not so: " + what);
        }
    }

    /** Each method of the document's face and how many arguments it takes. */
    private static Set<String> promised() throws IOException {
        Set<String> all = new TreeSet<>();
        String document = Files.readString(Path.of("../shared/DOC.md"));
        Matcher m = Pattern.compile("\n    public int (\\w+)\\(([^)]*)\\);").matcher(document);
        while (m.find()) {
            all.add(m.group(1) + "/" + Pattern.compile("int ").matcher(m.group(2)).results().count());
        }
        check("the document tells 38 methods", all.size() == 38);
        return all;
    }

    private static void face() throws IOException {
        Set<String> want = promised();
        Set<String> got = new TreeSet<>();
        Set<String> hidden = new TreeSet<>();
        for (Method m : NeckKnots.class.getDeclaredMethods()) {
            if (Modifier.isPrivate(m.getModifiers())) {
                hidden.add(m.getName());
            } else if (!m.isSynthetic()) {
                got.add(m.getName() + "/" + m.getParameterCount());
                check(m + " tells an int", m.getReturnType() == int.class && !Modifier.isStatic(m.getModifiers()));
            }
        }
        check("the face: " + got, got.equals(want));
        check("no private method with a public name", want.stream().noneMatch(w -> hidden.contains(w.split("/")[0])));
        String fields = Arrays.stream(NeckKnots.class.getDeclaredFields()).filter(f -> !Modifier.isPrivate(f.getModifiers()))
                .map(f -> f.getName()).sorted().collect(Collectors.joining(" "));
        check("public constants: " + fields, fields.equals("NONE NOTHING"));
        check("values", NeckKnots.NONE == -1 && NeckKnots.NOTHING == -1000);
        check("final", Modifier.isFinal(NeckKnots.class.getModifiers()));
        check("one constructor", NeckKnots.class.getDeclaredConstructors().length == 1);
        for (Class<?> c : NeckKnots.class.getDeclaredClasses()) {
            check(c + " is static and private", Modifier.isStatic(c.getModifiers()) && Modifier.isPrivate(c.getModifiers()));
            check(c + " has few fields", Arrays.stream(c.getDeclaredFields()).filter(f -> !Modifier.isStatic(f.getModifiers())).count() <= 20);
        }
        check("some twelve classes", NeckKnots.class.getDeclaredClasses().length < 12);
    }

    private static void source() throws IOException {
        String text = Files.readString(Path.of("src/main/java/NeckKnots.java"));
        String code = text.replaceAll("(?s)/\\*.*?\\*/", "").replaceAll("\"[^\"]*\"", "\"\"");
        for (String word : "throw try catch synchronized assert import package protected Exception".split(" ")) {
            check("no " + word, !Pattern.compile("\\b" + word + "\\b").matcher(code).find());
        }
        check("no lambda, no method reference", !code.contains("->") && !code.contains("::"));
        check("no text joined by +", !code.contains("\" +") && !code.contains("+ \""));
        check("signs 1 to 127", text.chars().allMatch(c -> c > 0 && c < 128));
        library(code);
        int length = 0;
        for (String line : text.split("\n")) {
            check("line of at most 120 signs: " + line, line.length() <= 120);
            boolean ends = line.matches("    (    )?\\}");
            length = ends || line.isEmpty() ? 0 : length + 1;
            check("method of at most sixty lines: " + line, length <= 60);
        }
    }

    /** Of the library only what the class is known to use, all of which LANGUAGE.md lists. */
    private static void library(String code) {
        Set<String> own = Arrays.stream(NeckKnots.class.getDeclaredClasses()).map(Class::getSimpleName).collect(Collectors.toSet());
        Matcher m = Pattern.compile("\\b[A-Z]\\w*[a-z]\\w*\\b(\\.\\w+)?").matcher(code);
        while (m.find()) {
            String name = m.group().split("\\.")[0];
            check("of the library: " + m.group(), name.equals("NeckKnots") || name.equals("String") || own.contains(name)
                    || LIBRARY.contains(m.group()));
        }
        for (Matcher call = Pattern.compile("\\brow\\.(\\w+)").matcher(code); call.find();) {
            check("of String: " + call.group(), call.group(1).equals("length") || call.group(1).equals("charAt"));
        }
    }

    private static int number(Random r) {
        switch (r.nextInt(6)) {
            case 0: return r.nextInt();
            case 1: return r.nextBoolean() ? Integer.MIN_VALUE + r.nextInt(14) : Integer.MAX_VALUE - r.nextInt(14);
            case 2: return r.nextInt(240) - 20;
            default: return r.nextInt(14) - 1;
        }
    }

    private static void noCallThrows() throws ReflectiveOperationException {
        Method[] methods = Arrays.stream(NeckKnots.class.getDeclaredMethods())
                .filter(m -> Modifier.isPublic(m.getModifiers())).sorted((a, b) -> a.getName().compareTo(b.getName())).toArray(Method[]::new);
        Random r = new Random(11);
        for (int run = 0; run < 400; run++) {
            NeckKnots x = new NeckKnots();
            for (int call = 0; call < 512; call++) {
                if (r.nextInt(12) == 0) {
                    Texts.put(x, Texts.random(r, r.nextBoolean()));
                }
                Method m = methods[r.nextInt(methods.length)];
                Object[] args = new Object[m.getParameterCount()];
                for (int i = 0; i < args.length; i++) {
                    args[i] = number(r);
                }
                m.invoke(x, args);
            }
        }
    }

    /** Texts of any bytes of the language, so that odd ends of all kinds are read. */
    private static void noTextThrows() {
        String[] bits = {"takes", "grips", "bars", " if ", " or ", " and ", " not ", "(", ")", "[", "]", ";", "+", "*", "/", "<", "=",
            "1", "0", "999", "at", "side", "lay", " on ", "draw", "many", "end", "cloth", "times", " ", "~"};
        Random r = new Random(12);
        for (int run = 0; run < 20000; run++) {
            NeckKnots x = new NeckKnots();
            StringBuilder s = new StringBuilder();
            int most = r.nextInt(150);
            for (int i = 0; i < most && s.length() < 380; i++) {
                s.append(bits[r.nextInt(bits.length)]);
            }
            boolean law = r.nextBoolean();
            int told = law ? Texts.law(x, s.toString()) : Texts.orders(x, s.toString());
            check("fault if and only if refused: " + s, (told == -6) == (x.fault() >= 0) && x.fault() <= s.length());
        }
    }

    private static long allocated() {
        return ((com.sun.management.ThreadMXBean) java.lang.management.ManagementFactory.getThreadMXBean())
                .getThreadAllocatedBytes(Thread.currentThread().getId());
    }

    /** 7.3 million fields and elements are the room of a run; a run here stays far below. */
    private static void room() {
        byte[] longest = Texts.bytes("takes 1" + "+1".repeat(30) + ";bars if 1 = 2".repeat(8) + ";grips 1;grips 2");
        int[][] feeds = Texts.feeds(longest).toArray(new int[0][]);
        long ahead = allocated();
        NeckKnots x = new NeckKnots();
        x.image(0);
        x.image(1);
        for (int i = 0; i < 40; i++) {
            for (int[] f : feeds) {
                x.feed(f[0], f[1], f[2], f[3], f[4]);
            }
            x.end(longest.length);
            check("law", x.law() == 0);
            x.force(0);
            x.best(200, 0);
            x.hands(i, 100, 12);
            x.back(0);
        }
        long needed = allocated() - ahead;
        check("room: " + needed + " bytes", needed < 1000000);
    }

    public static void main(String[] args) throws IOException, ReflectiveOperationException {
        face();
        source();
        noCallThrows();
        noTextThrows();
        room();
        System.out.println(wrong == 0 ? "the face is as due" : wrong + " things are not as due");
        if (wrong != 0) {
            System.exit(1);
        }
    }
}
