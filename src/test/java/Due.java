import java.io.IOException;
import java.nio.file.Files;
import java.nio.file.Path;
import java.util.LinkedHashMap;
import java.util.Map;
import java.util.function.Supplier;
import java.util.function.ToIntFunction;
import java.util.regex.Matcher;
import java.util.regex.Pattern;

/**
 * Asks for answers that are due, each under a sentence of the document. A sentence is told by its own words, which must
 * stand in the document; words there that stand in no sentence that was told are a failure, too.
 */
final class Due {
    /** What only tells of what a section speaks: its number, a call's own line, the titles ahead of some sentences. */
    private static final Pattern TITLES = Pattern.compile(
            "^[IV]+\\. |^`[^`]+`: |TERMS:|ORDERS:|Of both languages:|\\(On paper:\\)|^The constants:");
    private static final Pattern WORD = Pattern.compile("\\w+");
    private static final int[] WHYS = {-1, -2, -3, -5, -6};
    private static final Map<String, String> DOCUMENT = new LinkedHashMap<>();
    private static final Map<String, String> UNTOLD = new LinkedHashMap<>();

    private static int asked = 0;
    private static int wrong = 0;
    private static int sentences = 0;
    private static String sentence = "";

    private Due() {
    }

    private static void fail(String what) {
        wrong++;
        System.out.println("[" + sentence + "] " + what);
    }

    static void due(String call, int got, int want) {
        asked++;
        if (got != want) {
            fail(call + " answered " + got + ", due is " + want);
        }
    }

    // ---- sentences ----

    /** Sections: "0" What it is, "I" to "IV" of the terms, "C" the constants, "1" to "39" the promises. */
    static void readDocument() throws IOException {
        String section = "-";
        for (String line : Files.readString(Path.of("../shared/DOC.md")).split("\n")) {
            Matcher promise = Pattern.compile("## Promise (\\d+):.*").matcher(line);
            Matcher term = Pattern.compile("(I|II|III|IV)\\. .*").matcher(line);
            if (promise.matches()) {
                section = promise.group(1);
            } else if (line.startsWith("## ")) {
                section = line.equals("## What it is") ? "0" : "-";
            } else if (term.matches()) {
                section = term.group(1);
            } else if (line.startsWith("The constants:")) {
                section = "C";
            }
            if (!line.startsWith("#") && !line.startsWith("```")) {
                DOCUMENT.merge(section, line.trim(), (a, b) -> (a + " " + b).trim());
            }
        }
        UNTOLD.putAll(DOCUMENT);
    }

    /** What is asked from here on is due by these words. */
    static void sentence(String section, String words) {
        sentences++;
        sentence = section + ": " + words;
        if (!DOCUMENT.getOrDefault(section, "").contains(words)) {
            fail("these words don't stand in the document");
        }
        UNTOLD.computeIfPresent(section, (s, text) -> text.replace(words, "|"));
    }

    /** Every word of these sections must have been told. */
    static void allTold(String... sections) {
        for (String section : sections) {
            sentence = section;
            String rest = UNTOLD.getOrDefault(section, "NONE: no such section");
            Matcher m = WORD.matcher(TITLES.matcher(rest).replaceAll(" "));
            if (m.find()) {
                fail("no test names '" + m.group() + "' in: " + rest);
            }
        }
    }

    static void end() {
        System.out.println(wrong == 0 ? asked + " answers are as due by " + sentences + " sentences"
                : wrong + " answers are not as due");
        if (wrong != 0) {
            System.exit(1);
        }
    }

    // ---- refusals ----

    /** All that can be seen of an object by few calls, but for its refusals. */
    private static Map<String, Integer> seen(NeckKnots x) {
        Map<String, Integer> all = new LinkedHashMap<>();
        for (int what : new int[] {0, 1, 2, 3, 4, 5, 11, 12, 13, 14}) {
            all.put("count(" + what + ")", x.count(what));
        }
        all.put("fault()", x.fault());
        all.put("stopped()", x.stopped());
        all.put("lint()", x.lint());
        for (int what = 0; what < 4; what++) {
            all.put("drawn(" + what + ")", x.drawn(what));
        }
        all.put("fits(12, 0, NONE, 0)", x.fits(12, 0, -1, 0));
        all.put("wear(0)", x.wear(0));
        for (int k = 0; k < x.count(0); k++) {
            for (int what = 2; what < 5; what++) {
                all.put("of(" + k + ", " + what + ")", x.of(k, what));
            }
            int moves = x.of(k, 3);
            for (int at = 0; at < moves; at++) {
                all.put("of(" + k + ", " + (12 + at) + ")", x.of(k, 12 + at));
            }
        }
        return all;
    }

    private static int[] refusals(NeckKnots x) {
        int[] all = new int[WHYS.length];
        for (int i = 0; i < all.length; i++) {
            all[i] = x.count(6 + i);
        }
        return all;
    }

    private static void leavesAll(NeckKnots x, String call, ToIntFunction<NeckKnots> act, int want, int why, String... but) {
        Map<String, Integer> ahead = seen(x);
        int[] counts = refusals(x);
        int status = x.status();
        due(call, act.applyAsInt(x), want);
        due("status() behind " + call, x.status(), why == 0 ? status : why);
        for (int i = 0; i < WHYS.length; i++) {
            due("count(" + (6 + i) + ") behind " + call, x.count(6 + i), counts[i] + (WHYS[i] == why ? 1 : 0));
        }
        Map<String, Integer> behind = seen(x);
        for (String b : but) {
            behind.put(b, ahead.get(b));
        }
        for (String asking : ahead.keySet()) {
            due(asking + " behind " + call, behind.getOrDefault(asking, -99), ahead.get(asking));
        }
        due("what is seen behind " + call, behind.size(), ahead.size());
    }

    /** The call is refused, is counted and told by status(), and all is as it was. */
    static void refused(Supplier<NeckKnots> made, String call, ToIntFunction<NeckKnots> act, int why) {
        leavesAll(made.get(), call, act, why, why);
    }

    /** As refused(), of a call that empties the tape and may tell a fault, and where orders stopped. */
    static void refusedText(Supplier<NeckKnots> made, String call, ToIntFunction<NeckKnots> act, int why) {
        NeckKnots x = made.get();
        leavesAll(x, call, act, why, why, "count(5)", "fault()", "stopped()");
        due("the tape behind " + call, x.count(5), 0);
    }

    /** The call answers that there is none; it is no refusal, and all is as it was. */
    static void none(Supplier<NeckKnots> made, String call, ToIntFunction<NeckKnots> act, int want) {
        leavesAll(made.get(), call, act, want, 0);
    }

    // ---- ties ----

    static void lay(NeckKnots x, int knot, int... places) {
        for (int i = 0; i < places.length; i++) {
            int laid = x.lay(knot, places[i]);
            if (laid != x.of(knot, 3) || laid < 1) {
                fail("lay(" + knot + ", " + places[i] + ") for a test answered " + laid);
            }
        }
    }

    /** An object with one knot of 200 cloth. */
    static NeckKnots with(int start, int thick, int... places) {
        NeckKnots x = new NeckKnots();
        x.knot(start, thick, 200);
        lay(x, 0, places);
        return x;
    }

    /** One more knot of 200 cloth that is through: its number. */
    static int tied(NeckKnots x, int start, int thick, int... places) {
        int knot = x.knot(start, thick, 200);
        lay(x, knot, places);
        if (x.through(knot) != places.length) {
            fail("a knot for a test can't be put through");
        }
        return knot;
    }

    static NeckKnots ruled(String law) {
        NeckKnots x = new NeckKnots();
        rule(x, law);
        return x;
    }

    /** One more law, in force. */
    static void rule(NeckKnots x, String law) {
        int number = Texts.law(x, law);
        if (number < 0) {
            fail("law() for a test answered " + number + ": " + law + ", fault " + x.fault());
        }
        x.force(number);
    }

    /** The fault of a text; where it is NONE the text must be taken. */
    static void fault(boolean law, String text, int place) {
        NeckKnots x = new NeckKnots();
        x.knot(0, 1, 200);
        int got = law ? Texts.law(x, text) : Texts.orders(x, text);
        String told = text.length() < 60 ? text : text.substring(0, 25) + " .. " + text.substring(text.length() - 25);
        due("fault() of '" + told + "'", x.fault(), place);
        due("'" + told + "' is refused by -6", got == -6 ? 1 : 0, place == -1 ? 0 : 1);
    }
}
