import java.io.IOException;
import java.util.List;
import java.util.function.Supplier;
import java.util.function.ToIntFunction;

/** Each sentence of the promises 1 to 39 and of the constants has a test of its own here. */
public final class PromisesBoundsTest {
    private static final int NOTHING = -1000;
    private static final int LEAST = Integer.MIN_VALUE;
    private static final int MOST = Integer.MAX_VALUE;
    private static final int BARS = 0x62617273;

    /** A knot that is through, one of 12 moves, one without; a boy, a sight, a law in force, an image, a tape, a refusal. */
    private static NeckKnots some() {
        NeckKnots x = Due.ruled("takes 3;grips 1");
        Due.tied(x, 0, 1, 0, 1, 2);
        x.knot(0, 1, 200);
        x.knot(1, 1, 200);
        Due.lay(x, 1, 0, 1, 0, 1, 0, 1, 0, 1, 0, 1, 0, 1);
        x.boy(9);
        x.sight(1, 1);
        x.hands(0, 5, 4);
        x.image(0);
        x.feed(1, 2, 3, 4, 5);
        x.terms(9, 9);
        return x;
    }

    private static NeckKnots full() {
        NeckKnots x = new NeckKnots();
        for (int i = 0; i < 12; i++) {
            x.knot(0, 1, 200);
            x.boy(200);
            x.sight(11, 2);
        }
        for (int i = 0; i < 6; i++) {
            x.feed(BARS, 0, 0, 0, 0);
            x.end(4);
            x.law();
        }
        return x;
    }

    private static void newObject() {
        Due.sentence("1", "A drawer without ties.");
        NeckKnots x = new NeckKnots();
        int[] counts = {0, 0, 0, 0, 0, 0, 0, 0, 0, 0, 0, -1, 0, 3, 2};
        for (int what = 0; what < counts.length; what++) {
            Due.due("count(" + what + ")", x.count(what), counts[what]);
        }
        Due.none(NeckKnots::new, "of(0, 0)", y -> y.of(0, 0), NOTHING);
        Due.none(NeckKnots::new, "front(0, 0)", y -> y.front(0, 0), -1);
        Due.none(NeckKnots::new, "rank(0)", y -> y.rank(0), -1);
        Due.none(NeckKnots::new, "change(0, 0)", y -> y.change(0, 0), -1);
        Due.none(NeckKnots::new, "asks(0, 0, 0)", y -> y.asks(0, 0, 0), NOTHING);
        Due.none(NeckKnots::new, "forget()", y -> y.forget(), 0);
        Due.none(NeckKnots::new, "home()", y -> y.home(), 0);
        Due.none(NeckKnots::new, "end(0)", y -> y.end(0), 0);
        Due.refused(NeckKnots::new, "undo()", y -> y.undo(), -3);
    }

    private static void knot() {
        Due.sentence("2", "A KNOT without MOVES: its number. -1; -5.");
        NeckKnots x = new NeckKnots();
        for (int i = 0; i < 8; i++) {
            Due.due("knot()", x.knot(1, 9, 200), i);
            Due.due("status()", x.status(), 0);
            Due.due("moves", x.of(i, 3), 0);
        }
        int[][] bad = {{-1, 1, 1}, {2, 1, 1}, {0, 0, 1}, {0, 10, 1}, {0, 1, 0}, {0, 1, 201}, {LEAST, 1, 1}, {0, MOST, 1}, {0, 1, MOST}};
        for (int[] b : bad) {
            String call = "knot(" + b[0] + ", " + b[1] + ", " + b[2] + ")";
            Due.refused(PromisesBoundsTest::some, call, y -> y.knot(b[0], b[1], b[2]), -1);
            Due.refused(PromisesBoundsTest::full, call + " in a full drawer", y -> y.knot(b[0], b[1], b[2]), -1);
        }
        Due.refused(PromisesBoundsTest::full, "knot(0, 1, 1)", y -> y.knot(0, 1, 1), -5);
    }

    private static void figures(NeckKnots x, int knot, int... due) {
        for (int what = 0; what < due.length; what++) {
            Due.due("of(" + knot + ", " + what + ")", x.of(knot, what), due[what]);
        }
    }

    private static void ofEach() {
        Due.sentence("3", "Of a KNOT START (what 0), THICK (1), CLOTH (2), how many MOVES (3), whether THROUGH (4: 1, 0),"
                + " what it TAKES (5), its GRIP (6), whether it HOLDS (7: 1, 0), CENTRES (8), LEAN (9), TWISTS (10),"
                + " how many are LEFT when it is DRAWN OUT (11),");
        NeckKnots x = Due.ruled("takes 7;grips 2;grips 3 if at < 5");
        x.knot(0, 9, 60);
        x.knot(1, 4, 150);
        // wound other, one, other, one, other, one, other, other, other
        Due.lay(x, 1, 2, 0, 2, 0, 2, 0, 2, 0, 1, 2);
        // wound other, other, one
        Due.lay(x, 0, 1, 2, 0, 2);
        figures(x, 1, 1, 4, 150, 10, 0, 70, 25, 0, 5, 3, 6, 3);
        figures(x, 0, 0, 9, 60, 4, 0, 28, 12, 0, 2, 0, 1, 1);
        x.through(1);
        figures(x, 1, 1, 4, 150, 10, 1, 70, 25, 1, 5, 3, 6, 3);
        x.mirror(1);
        figures(x, 1, 1, 4, 150, 10, 1, 70, 25, 1, 5, -3, 6, 3);
        x.terms(1, 26);
        figures(x, 1, 1, 4, 150, 10, 1, 70, 25, 0, 5, -3, 6, 3);
        x.force(-1);
        figures(x, 1, 1, 4, 150, 10, 1, 60, 10, 0, 5, -3, 6, 3);
        x.draw(1);
        x.draw(1);
        figures(x, 1, 1, 4, 150, 9, 0, 54, 9, 0, 4, -3, 6, 2);
    }

    private static void of() {
        Due.sentence("3", "the PLACE of MOVE k (12 + k). NOTHING.");
        NeckKnots x = some();
        int[] through = {0, 1, 200, 3, 1, 9, 3, 1, 1, 0, 0, 2, 0, 1, 2, NOTHING, NOTHING};
        for (int what = 0; what < through.length; what++) {
            Due.due("of(0, " + what + ")", x.of(0, what), through[what]);
        }
        int[] without = {1, 1, 200, 0, 0, 0, 0, 0, 0, 0, 0, 0, NOTHING};
        for (int what = 0; what < without.length; what++) {
            Due.due("of(2, " + what + ")", x.of(2, what), without[what]);
        }
        Due.due("of(1, 23)", x.of(1, 23), 1);
        for (int what : new int[] {24, 100, -1, -12, LEAST, MOST}) {
            Due.none(PromisesBoundsTest::some, "of(1, " + what + ")", y -> y.of(1, what), NOTHING);
        }
        for (int knot : new int[] {3, 8, -1, LEAST, MOST}) {
            for (int what : new int[] {0, 4, 7, 12}) {
                Due.none(PromisesBoundsTest::some, "of(" + knot + ", " + what + ")", y -> y.of(knot, what), NOTHING);
            }
        }
        Due.due("a move that was drawn", drawnOnce().of(0, 13), NOTHING);
    }

    private static NeckKnots drawnOnce() {
        NeckKnots x = Due.with(0, 1, 0, 1);
        x.draw(0);
        return x;
    }

    private static void terms() {
        Due.sentence("4", "A TERM: what it was. -1.");
        NeckKnots x = new NeckKnots();
        Due.due("terms(1, 0)", x.terms(1, 0), 3);
        Due.due("terms(1, 0) once more", x.terms(1, 0), 0);
        Due.due("status()", x.status(), 0);
        int[][] bad = {{-1, 1}, {3, 1}, {0, -1}, {0, 10}, {1, -1}, {1, 100}, {2, 0}, {2, 10}, {LEAST, 1}, {MOST, 1}, {1, LEAST}, {1, MOST}};
        for (int[] b : bad) {
            Due.refused(PromisesBoundsTest::some, "terms(" + b[0] + ", " + b[1] + ")", y -> y.terms(b[0], b[1]), -1);
        }
    }

    private static Supplier<NeckKnots> taped(int length) {
        return () -> {
            NeckKnots x = new NeckKnots();
            x.terms(9, 9);
            for (int i = 0; i < length; i += 20) {
                x.feed(0x20202020, 0x20202020, 0x20202020, 0x20202020, 0x20202020);
            }
            x.end(length);
            return x;
        };
    }

    private static void feed() {
        Due.sentence("5", "Twenty bytes come behind the TAPE, four of each number, the highest first: how many it has.");
        NeckKnots x = new NeckKnots();
        Due.due("feed() of bytes", x.feed(0x0109C800, 0x01C90109, 0xC8FFFFFF, 0x80808080, 0x00090001), 20);
        Due.due("row()", x.row(), 2);
        Due.due("lint()", x.lint(), 5);
        Due.due("cloth of the first", x.of(0, 2), 200);
        Due.due("start of the first", x.of(0, 0), 1);
        Due.due("thick of the second", x.of(1, 1), 9);
        Due.due("start of the second", x.of(1, 0), 1);
        NeckKnots y = taped(7).get();
        Due.due("feed() behind 7", y.feed(BARS, 0x20202020, 0x20202020, 0x20202020, 0x20202020), 27);
        Due.due("law()", y.law(), 0);
        Due.sentence("5", "NONE, if there would be more than 400.");
        Due.due("feed() to 400", taped(380).get().feed(1, 2, 3, 4, 5), 400);
        Due.due("feed() to 399", taped(379).get().feed(1, 2, 3, 4, 5), 399);
        for (int length : new int[] {381, 390, 399, 400}) {
            Due.none(taped(length), "feed() behind " + length, z -> z.feed(1, 2, 3, 4, 5), -1);
        }
    }

    private static void end() {
        Due.sentence("6", "The TAPE has its first n bytes alone: n. NONE, if it has not so many, or n is below 0.");
        NeckKnots x = taped(20).get();
        Due.due("end(20)", x.end(20), 20);
        Due.due("end(19)", x.end(19), 19);
        Due.due("count(5)", x.count(5), 19);
        Due.due("end(0)", x.end(0), 0);
        Due.due("count(5)", x.count(5), 0);
        Due.due("end(400)", taped(400).get().end(400), 400);
        for (int n : new int[] {21, 400, 401, -1, LEAST, MOST}) {
            Due.none(taped(20), "end(" + n + ")", y -> y.end(n), -1);
        }
        Due.none(taped(0), "end(1) of nothing", y -> y.end(1), -1);
        NeckKnots y = new NeckKnots();
        y.feed(BARS, BARS, 0, 0, 0);
        y.end(3);
        y.feed(0x73202020, 0x20202020, 0x20202020, 0x20202020, 0x20202020);
        Due.due("what was behind the end is gone", y.law(), 0);
    }

    private static void row() {
        Due.sentence("7", "A ROW, the TAPE is empty then: how many KNOTS came. -6 the TAPE is empty.");
        NeckKnots x = new NeckKnots();
        Due.due("row() of one byte", Texts.row(x, 0), 0);
        Due.due("status()", x.status(), 0);
        Due.due("the tape", x.count(5), 0);
        Due.due("row() of one knot", Texts.row(x, 0, 1, 1), 1);
        Due.due("the tape", x.count(5), 0);
        Due.due("row() once more", x.row(), -6);
        NeckKnots full = full();
        full.feed(0x00010100, 0, 0, 0, 0);
        Due.due("row() with no room", full.row(), 0);
        Due.due("status() with no room", full.status(), 0);
        Due.due("the tape", full.count(5), 0);
        Due.refused(NeckKnots::new, "row() of nothing", NeckKnots::row, -6);
        Due.refused(PromisesBoundsTest::full, "row() of nothing in a full drawer", NeckKnots::row, -6);
        Due.refused(() -> {
            NeckKnots y = some();
            y.end(0);
            return y;
        }, "row() behind end(0)", NeckKnots::row, -6);
        Due.sentence("8", "How much LINT the latest row() had that was not REFUSED (0 ahead of any).");
        NeckKnots y = new NeckKnots();
        Due.due("lint() ahead of any", y.lint(), 0);
        y.row();
        Due.due("lint() behind a refused one", y.lint(), 0);
        Texts.row(y, 0, 1, 1, 9, 9);
        Due.due("lint()", y.lint(), 1);
        y.row();
        Due.due("lint() behind a refused one", y.lint(), 1);
        Texts.row(y, 0, 1, 1);
        Due.due("lint() of a row without", y.lint(), 0);
    }

    private static NeckKnots sixLaws(String fed) {
        NeckKnots x = full();
        Texts.orders(x, "?");
        Texts.put(x, Texts.bytes(fed));
        return x;
    }

    private static void law() {
        Due.sentence("9", "The TAPE, which is empty then, becomes a LAW: its number.");
        NeckKnots x = new NeckKnots();
        for (int i = 0; i < 6; i++) {
            Due.due("law()", Texts.law(x, "takes " + i), i);
            Due.due("status()", x.status(), 0);
            Due.due("the tape", x.count(5), 0);
        }
        Due.sentence("9", "-5 (ahead of reading it; the TAPE is empty then, too)");
        for (String text : new String[] {"", "  ", "bars", "nonsense", "takes 1001"}) {
            Due.refusedText(() -> sixLaws(text), "a 7th law() of '" + text + "'", NeckKnots::law, -5);
            NeckKnots y = sixLaws(text);
            y.law();
            Due.due("fault() of what was read last", y.fault(), 0);
            Due.due("the tape", y.count(5), 0);
        }
        Due.sentence("9", "-6 (blanks alone: FAULT at the end).");
        for (int blanks : new int[] {0, 1, 20, 400}) {
            Due.refusedText(taped(blanks), "law() of " + blanks + " blanks", NeckKnots::law, -6);
            NeckKnots y = taped(blanks).get();
            y.law();
            Due.due("fault()", y.fault(), blanks);
        }
        Due.refusedText(NeckKnots::new, "law() of 'bars ?'", y -> Texts.law(y, "bars ?"), -6);
        NeckKnots z = new NeckKnots();
        Texts.law(z, "bars ?");
        Due.due("the number behind a refused one", Texts.law(z, "bars"), 0);
    }

    private static void orders() {
        Due.sentence("10", "ORDERS, the TAPE is empty then: how many were run.");
        NeckKnots x = Due.with(0, 1);
        Due.due("none", Texts.orders(x, "mirror 0 if 1 = 2"), 0);
        Due.due("status()", x.status(), 0);
        Due.due("the tape", x.count(5), 0);
        Due.due("one", Texts.orders(x, "mirror 0"), 1);
        Due.due("orders() without knots", Texts.orders(new NeckKnots(), "mirror 0 if many 0 > 0"), 0);
        Due.sentence("10", "-3 one can't be; -6 (as for law()).");
        Due.refusedText(PromisesBoundsTest::some, "one can't be", y -> Texts.orders(y, "mirror 1;mirror 9"), -3);
        Due.refusedText(PromisesBoundsTest::some, "-6, though the first can't be", y -> Texts.orders(y, "mirror 9;mirror"), -6);
        Due.refusedText(PromisesBoundsTest::some, "none of a text with a fault is run", y -> Texts.orders(y, "mirror 1;x"), -6);
        for (int blanks : new int[] {0, 1, 20, 400}) {
            Due.refusedText(taped(blanks), "orders() of " + blanks + " blanks", NeckKnots::orders, -6);
            NeckKnots y = taped(blanks).get();
            y.orders();
            Due.due("fault()", y.fault(), blanks);
        }
        Due.due("orders() with six laws", Texts.orders(full(), "mirror 7"), 1);
    }

    private static void fault() {
        Due.sentence("11", "FAULT of the latest law(), orders() that read a TEXT: its place; NONE without.");
        NeckKnots x = new NeckKnots();
        Due.due("ahead of any", x.fault(), -1);
        x.row();
        Due.due("row() reads no text", x.fault(), -1);
        Texts.law(x, "bars ?");
        Due.due("of law()", x.fault(), 5);
        Texts.row(x, 1, 2, 3);
        x.back(0);
        Due.due("others leave it", x.fault(), 5);
        Texts.orders(x, "?");
        Due.due("of orders(), at 0", x.fault(), 0);
        Texts.law(x, "bars");
        Due.due("without", x.fault(), -1);
        Texts.law(x, "bars ?");
        Due.due("orders() that can't be", Texts.orders(x, "mirror 9"), -3);
        Due.due("it has none", x.fault(), -1);
        Texts.orders(x, "mirror");
        Texts.orders(x, "mirror 0 if 1=2");
        Due.due("orders() that are run have none", x.fault(), -1);
        NeckKnots y = full();
        Texts.orders(y, "mirror");
        Texts.law(y, "bars");
        Due.due("law() that was not read", y.fault(), 6);
        Texts.orders(y, "mirror 0");
        Texts.law(y, "?");
        Due.due("law() that was not read", y.fault(), -1);
        Due.sentence("12", "Which CLAUSE of the latest orders() could not be. NONE.");
        NeckKnots z = Due.with(0, 1);
        Due.due("ahead of any", z.stopped(), -1);
        Texts.orders(z, "draw 0");
        Due.due("the first", z.stopped(), 0);
        Texts.law(z, "bars if 1=2");
        z.row();
        z.undo();
        Due.due("others leave it", z.stopped(), 0);
        Texts.orders(z, "mirror 0;".repeat(11) + "draw 0");
        Due.due("the 12th", z.stopped(), 11);
        Texts.orders(z, "draw 0 if 1=2;mirror 0 times 20;lay done%3 on 0 times 13;mirror 0");
        Due.due("clauses are counted, not times", z.stopped(), 2);
        Texts.orders(z, "mirror 0");
        Due.due("of one that could be", z.stopped(), -1);
        Texts.orders(z, "draw 0");
        Texts.orders(z, "draw");
        Due.due("of one with a fault", z.stopped(), -1);
        Texts.orders(z, "draw 0");
        z.orders();
        Due.due("of one without a text", z.stopped(), -1);
    }

    private static void force() {
        Due.sentence("13", "A LAW is in FORCE (NONE: none): which was. -2.");
        NeckKnots x = new NeckKnots();
        Due.due("force(NONE) of none", x.force(-1), -1);
        Due.due("status(), though it answered -1", x.status(), 0);
        Due.due("count(6)", x.count(6), 0);
        Texts.law(x, "takes 5");
        Due.due("force(0)", x.force(0), -1);
        Due.due("status(), though it answered -1", x.status(), 0);
        Due.due("force(0) once more", x.force(0), 0);
        Due.due("force(NONE)", x.force(-1), 0);
        Due.due("count(11)", x.count(11), -1);
        for (int law : new int[] {1, 6, -2, LEAST, MOST}) {
            Due.refused(PromisesBoundsTest::some, "force(" + law + ")", y -> y.force(law), -2);
        }
        Due.due("force(5) of six", full().force(5), -1);
        Due.refused(PromisesBoundsTest::full, "force(6) of six", y -> y.force(6), -2);
        Due.refused(NeckKnots::new, "force(0) of none", y -> y.force(0), -2);
        NeckKnots z = new NeckKnots();
        z.image(0);
        Due.rule(z, "bars");
        z.back(0);
        Due.due("force() of a law that is gone", z.force(0), -2);
    }

    /** What a move takes and grips is what the knot takes and grips more when it is laid. */
    private static void asksNext() {
        Due.sentence("14", "Of a MOVE that would come next on a KNOT, to a PLACE, what it TAKES (what 0), GRIPS (1),");
        NeckKnots x = Due.ruled("takes at + place * 3 + side;grips before * 2 - place + side");
        x.knot(1, 2, 200);
        x.knot(0, 5, 200);
        int[] places = {2, 0, 1, 0, 2, 1, 2};
        for (int at = 0; at < places.length; at++) {
            for (int place = 0; place < 3; place++) {
                int before = at == 0 ? -1 : places[at - 1];
                int side = (1 + at) % 2;
                Due.due("asks(0, " + place + ", 0) of move " + at, x.asks(0, place, 0), at + place * 3 + side);
                Due.due("asks(0, " + place + ", 1) of move " + at, x.asks(0, place, 1), before * 2 - place + side);
                Due.due("asks(1, " + place + ", 0), where none is laid", x.asks(1, place, 0), place * 3);
                Due.due("moves: asking lays none", x.of(0, 3), at);
            }
            int takes = x.of(0, 5) + x.asks(0, places[at], 0);
            int grip = x.of(0, 6) + x.asks(0, places[at], 1);
            Due.due("lay()", x.lay(0, places[at]), at + 1);
            Due.due("takes", x.of(0, 5), takes);
            Due.due("grip", x.of(0, 6), grip);
        }
        NeckKnots poor = new NeckKnots();
        poor.knot(0, 9, 1);
        Due.due("asks() of what the cloth is not enough for", poor.asks(0, 0, 0), 11);
    }

    private static void asks() {
        Due.sentence("14", "whether it is BARRED (2: 1, 0). NOTHING (12 are laid).");
        NeckKnots x = Due.with(0, 9);
        int[] due = {11, 1, 0};
        for (int at = 0; at < 12; at++) {
            for (int what = 0; what < 3; what++) {
                Due.due("asks(0, " + (at % 2) + ", " + what + ") of move " + at, x.asks(0, at % 2, what), due[what]);
            }
            x.lay(0, at % 2);
        }
        for (int place = 0; place < 3; place++) {
            int to = place;
            Due.none(PromisesBoundsTest::some, "asks(1, " + place + ", 0) of a 13th", y -> y.asks(1, to, 0), NOTHING);
            Due.none(PromisesBoundsTest::some, "asks(1, " + place + ", 2) of a 13th", y -> y.asks(1, to, 2), NOTHING);
        }
        for (int bad : new int[] {-1, 3, LEAST, MOST}) {
            Due.none(PromisesBoundsTest::some, "asks(" + bad + ", 0, 0)", y -> y.asks(bad, 0, 0), NOTHING);
            Due.none(PromisesBoundsTest::some, "asks(2, " + bad + ", 0)", y -> y.asks(2, bad, 0), NOTHING);
            Due.none(PromisesBoundsTest::some, "asks(2, 0, " + bad + ")", y -> y.asks(2, 0, bad), NOTHING);
        }
        Due.none(PromisesBoundsTest::some, "asks(2, 0, 0)", y -> y.asks(2, 0, 0), 3);
    }

    private static Supplier<NeckKnots> twelveBy(String law) {
        return () -> {
            NeckKnots x = Due.with(0, 1, 0, 1, 0, 1, 0, 1, 0, 1, 0, 1, 0, 1);
            Due.rule(x, law);
            return x;
        };
    }

    private static void lay() {
        Due.sentence("15", "To LAY: how many MOVES then. -1; -2; -3; -5 12 are laid (asked ahead of BARRED, CLOTH).");
        for (int bad : new int[] {-1, 3, LEAST, MOST}) {
            Due.refused(PromisesBoundsTest::some, "lay(2, " + bad + ")", x -> x.lay(2, bad), -1);
            Due.refused(PromisesBoundsTest::some, "lay(9, " + bad + "): -1 ahead of -2", x -> x.lay(9, bad), -1);
            Due.refused(PromisesBoundsTest::some, "lay(0, " + bad + "): -1 ahead of -3", x -> x.lay(0, bad), -1);
            Due.refused(PromisesBoundsTest::some, "lay(1, " + bad + "): -1 ahead of -5", x -> x.lay(1, bad), -1);
            Due.refused(PromisesBoundsTest::some, "lay(" + bad + ", 0)", x -> x.lay(bad, 0), -2);
        }
        Due.refused(PromisesBoundsTest::some, "lay() behind through()", x -> x.lay(0, 0), -3);
        Due.refused(PromisesBoundsTest::some, "lay() to the same place: -3 ahead of -5", x -> x.lay(1, 1), -3);
        Due.refused(() -> {
            NeckKnots x = new NeckKnots();
            Due.tied(x, 1, 1, 0, 1, 0, 1, 0, 1, 0, 1, 2, 0, 1, 2);
            return x;
        }, "lay() behind through(): -3 ahead of -5", x -> x.lay(0, 0), -3);
        Due.refused(PromisesBoundsTest::some, "a 13th", x -> x.lay(1, 0), -5);
        Due.refused(PromisesBoundsTest::some, "a 13th", x -> x.lay(1, 2), -5);
        Due.refused(twelveBy("bars"), "-5 ahead of barred", x -> x.lay(0, 2), -5);
        Due.refused(twelveBy("takes 20"), "-5 ahead of cloth", x -> x.lay(0, 2), -5);
        Due.due("the 12th", drawnOf(twelveBy("takes 16")).lay(0, 2), 12);
        Due.refused(() -> drawnOf(twelveBy("takes 17")), "cloth for 11 of 12", x -> x.lay(0, 2), -3);
        Due.refused(() -> drawnOf(twelveBy("bars")), "barred", x -> x.lay(0, 2), -3);
        NeckKnots x = full();
        Due.due("lay() on the 8th", x.lay(7, 0), 1);
        Due.due("status()", x.status(), 0);
        Due.refused(PromisesBoundsTest::full, "lay() on a 9th", y -> y.lay(8, 0), -2);
    }

    private static NeckKnots drawnOf(Supplier<NeckKnots> made) {
        NeckKnots x = made.get();
        x.draw(0);
        return x;
    }

    private static void acts() {
        int[] no = {3, 8, -1, LEAST, MOST};
        Due.sentence("16", "To put THROUGH: how many MOVES. -2; -3.");
        for (int knot : no) {
            Due.refused(PromisesBoundsTest::some, "through(" + knot + ")", x -> x.through(knot), -2);
        }
        for (int knot = 0; knot < 3; knot++) {
            int stands = knot;
            Due.refused(PromisesBoundsTest::some, "through(" + knot + ")", x -> x.through(stands), -3);
        }
        Due.due("through() of 3", Due.with(0, 1, 1, 0, 2).through(0), 3);
        Due.due("through() of 12", Due.with(1, 1, 1, 0, 1, 0, 1, 0, 1, 0, 1, 0, 1, 2).through(0), 12);
        Due.sentence("17", "To DRAW: how many MOVES then. -2; -3 there is none.");
        for (int knot : no) {
            Due.refused(PromisesBoundsTest::some, "draw(" + knot + ")", x -> x.draw(knot), -2);
        }
        Due.refused(PromisesBoundsTest::some, "draw(2)", x -> x.draw(2), -3);
        NeckKnots x = some();
        Due.due("draw() of 12", x.draw(1), 11);
        Due.due("draw() of one that is through", x.draw(0), 3);
        Due.due("draw() of one move", Due.with(0, 1, 2).draw(0), 0);
        Due.sentence("18", "MIRROR: how many MOVES. -2.");
        for (int knot : no) {
            Due.refused(PromisesBoundsTest::some, "mirror(" + knot + ")", y -> y.mirror(knot), -2);
        }
        Due.due("mirror() of none", x.mirror(2), 0);
        Due.due("status()", x.status(), 0);
        Due.due("mirror() of 11", x.mirror(1), 11);
        Due.due("mirror() of one that was through", x.mirror(0), 3);
    }

    private static void undoKept() {
        Due.sentence("19", "The latest lay(), through(), draw(), mirror() (by ORDERS, too; 16 are kept) is undone: 0 .. 3.");
        NeckKnots x = Due.with(0, 1, 0, 1, 2);
        x.through(0);
        x.draw(0);
        x.mirror(0);
        int[] kinds = {3, 2, 1, 0, 0, 0};
        int[] moves = {3, 3, 3, 2, 1, 0};
        int[] through = {0, 1, 0, 0, 0, 0};
        for (int i = 0; i < kinds.length; i++) {
            Due.due("undo()", x.undo(), kinds[i]);
            Due.due("status()", x.status(), 0);
            Due.due("moves", x.of(0, 3), moves[i]);
            Due.due("through", x.of(0, 4), through[i]);
            Due.due("the first place", x.of(0, 12), moves[i] > 0 ? 0 : NOTHING);
        }
        Due.due("undo() of nothing", x.undo(), -3);
        Due.due("undo() is not undone", x.count(4), 0);
        NeckKnots y = Due.with(0, 1);
        for (int i = 0; i < 12; i++) {
            y.lay(0, i % 2);
        }
        Due.due("count(4) of 12", y.count(4), 12);
        for (int i = 0; i < 4; i++) {
            y.draw(0);
        }
        Due.due("count(4) of 16", y.count(4), 16);
        y.draw(0);
        Due.due("count(4) of 17", y.count(4), 16);
        Texts.orders(y, "draw 0");
        Due.due("count(4) of 18", y.count(4), 16);
        for (int i = 0; i < 6; i++) {
            Due.due("undo() of draw()", y.undo(), 2);
            Due.due("moves", y.of(0, 3), 7 + i);
            Due.due("its place", y.of(0, 18 + i), i % 2);
        }
        for (int i = 0; i < 10; i++) {
            Due.due("undo() of lay()", y.undo(), 0);
        }
        Due.due("a 17th undo()", y.undo(), -3);
        Due.due("two that were ahead of 16", y.of(0, 3), 2);
        NeckKnots z = Due.with(0, 1);
        Due.due("orders() of 20", Texts.orders(z, "lay 0 on 0;mirror 0 times 19"), 20);
        Due.due("count(4) of 20", z.count(4), 16);
        for (int i = 0; i < 16; i++) {
            Due.due("undo() of mirror()", z.undo(), 3);
        }
        Due.due("a 17th undo()", z.undo(), -3);
        Due.due("three mirrors are left", z.of(0, 12), 1);
        undoOfKnots();
    }

    /** Of two knots by turns, and beyond 16. */
    private static void undoOfKnots() {
        NeckKnots x = Due.with(0, 1);
        x.knot(0, 1, 200);
        for (int i = 0; i < 10; i++) {
            x.lay(0, i % 2);
            x.lay(1, 2 - i % 2);
        }
        for (int i = 9; i >= 2; i--) {
            Due.due("undo()", x.undo(), 0);
            Due.due("moves of 1", x.of(1, 3), i);
            Due.due("moves of 0", x.of(0, 3), i + 1);
            Due.due("undo()", x.undo(), 0);
            Due.due("moves of 0", x.of(0, 3), i);
        }
        Due.due("a 17th", x.undo(), -3);
        Due.lay(x, 1, 2, 0);
        x.draw(1);
        x.draw(1);
        for (int i = 0; i < 14; i++) {
            x.mirror(0);
        }
        for (int i = 0; i < 14; i++) {
            x.undo();
        }
        Due.due("undo() of draw(1)", x.undo(), 2);
        Due.due("its place", x.of(1, 14), 2);
        Due.due("undo() of draw(1)", x.undo(), 2);
        Due.due("its place", x.of(1, 15), 0);
        Due.due("moves of 0", x.of(0, 3), 2);
        Due.due("a 17th", x.undo(), -3);
        NeckKnots y = Due.with(0, 1, 0);
        y.knot(0, 1, 200);
        Due.lay(y, 0, 1);
        Due.lay(y, 1, 1);
        for (int i = 0; i < 15; i++) {
            y.mirror(0);
        }
        for (int i = 0; i < 15; i++) {
            y.undo();
        }
        Due.due("the 16th", y.undo(), 0);
        Due.due("it was of knot 1", y.of(1, 3), 0);
        Due.due("the 17th was of knot 0", y.of(0, 3), 2);
        Due.due("it is gone", y.undo(), -3);
    }

    private static Supplier<NeckKnots> behind(ToIntFunction<NeckKnots> act) {
        return () -> {
            NeckKnots x = Due.with(0, 1, 0, 1);
            act.applyAsInt(x);
            return x;
        };
    }

    private static void undoRefused() {
        Due.sentence("19", "-3 there is none (nothing that was ahead of a knot(), row(), terms() that was not REFUSED can be undone).");
        Due.refused(NeckKnots::new, "undo() on a new object", NeckKnots::undo, -3);
        Due.refused(() -> Due.with(0, 1), "undo() behind knot()", NeckKnots::undo, -3);
        Due.refused(behind(x -> x.knot(0, 1, 1)), "undo() behind lay(), knot()", NeckKnots::undo, -3);
        Due.refused(behind(x -> Texts.row(x, 0, 1, 1)), "undo() behind lay(), row()", NeckKnots::undo, -3);
        Due.refused(behind(x -> Texts.row(x, 9)), "undo() behind lay(), row() of lint", NeckKnots::undo, -3);
        for (int what = 0; what < 3; what++) {
            int term = what;
            Due.refused(behind(x -> x.terms(term, 5)), "undo() behind lay(), terms()", NeckKnots::undo, -3);
            Due.refused(behind(x -> x.terms(term, x.count(12 + term))), "undo() behind lay(), terms() as it was", NeckKnots::undo, -3);
        }
        Due.due("undo() behind knot() that was refused", behind(x -> x.knot(2, 1, 1)).get().undo(), 0);
        Due.due("undo() behind row() that was refused", behind(x -> x.row()).get().undo(), 0);
        Due.due("undo() behind terms() that was refused", behind(x -> x.terms(0, 10)).get().undo(), 0);
        Due.due("undo() behind lay() that was refused", behind(x -> x.lay(0, 1)).get().undo(), 0);
        Due.due("undo() behind orders() that were refused", behind(x -> Texts.orders(x, "mirror 0;draw 9")).get().undo(), 0);
        Due.due("undo() behind force()", behind(x -> x.force(-1)).get().undo(), 0);
        Due.due("undo() behind law()", behind(x -> Texts.law(x, "bars")).get().undo(), 0);
        Due.due("undo() behind boy(), sight(), image(), hands()",
                behind(x -> x.boy(1) + x.sight(1, 1) + x.image(0) + x.hands(0, 1, 3)).get().undo(), 0);
        Due.due("undo() behind home(), forget()", behind(x -> x.home() + x.forget()).get().undo(), 0);
        Due.refused(behind(x -> x.image(0) + x.lay(0, 2) + x.back(0)), "undo() behind back()", NeckKnots::undo, -3);
        NeckKnots x = behind(y -> y.knot(0, 1, 9)).get();
        x.lay(1, 2);
        Due.due("undo() of what is behind knot()", x.undo(), 0);
        Due.due("undo() of what is ahead of it", x.undo(), -3);
        NeckKnots barred = Due.with(0, 1, 0, 1, 2);
        barred.draw(0);
        Due.rule(barred, "bars;takes 20;grips 0-9");
        Due.due("undo() of draw(), whatever the law", barred.undo(), 2);
        Due.due("its place", barred.of(0, 14), 2);
    }

    private static void front() {
        Due.sentence("20", "The FRONT: the PLACE at i 0 .. 2. NONE.");
        NeckKnots x = Due.with(0, 1, 0, 2, 1, 0, 2);
        int[] due = {2, 1, 0};
        for (int i = 0; i < 3; i++) {
            Due.due("front(0, " + i + ")", x.front(0, i), due[i]);
        }
        for (int i : new int[] {3, -1, 16, 32, LEAST, MOST}) {
            Due.none(() -> Due.with(0, 1, 0, 2, 1, 0, 2), "front(0, " + i + ")", y -> y.front(0, i), -1);
        }
        for (int knot : new int[] {3, -1, LEAST, MOST}) {
            Due.none(PromisesBoundsTest::some, "front(" + knot + ", 0)", y -> y.front(knot, 0), -1);
        }
        Due.none(PromisesBoundsTest::some, "front(2, 0) without moves", y -> y.front(2, 0), -1);
        Due.none(PromisesBoundsTest::some, "front(0, 2) of two", y -> y.front(0, 2), -1);
    }

    private static void ways() {
        Due.sentence("21", "PROPER WORDS of n MOVES with so many CENTRES (NONE: any): how many. NONE (n not 3 .. 12).");
        for (int n = 3; n <= 12; n++) {
            int length = n;
            Due.none(NeckKnots::new, "ways(" + n + ", NONE)", x -> x.ways(length, -1), 1 << (n - 2));
            Due.none(NeckKnots::new, "ways(" + n + ", 0)", x -> x.ways(length, 0), 0);
            Due.none(NeckKnots::new, "ways(" + n + ", 13)", x -> x.ways(length, 13), 0);
        }
        // at most each other move ahead of the last three is to the centre, and the last of all
        Due.due("the most centres of 12", new NeckKnots().ways(12, 6) > 0 ? 1 : 0, 1);
        Due.due("more than the most of 12", new NeckKnots().ways(12, 7), 0);
        Due.due("ways(3, 1)", new NeckKnots().ways(3, 1), 2);
        Due.due("ways(3, 2)", new NeckKnots().ways(3, 2), 0);
        for (int centres : new int[] {-2, LEAST, MOST}) {
            Due.none(NeckKnots::new, "ways(4, " + centres + ")", x -> x.ways(4, centres), 0);
        }
        for (int n : new int[] {2, 13, 0, -1, -3, LEAST, MOST}) {
            Due.none(NeckKnots::new, "ways(" + n + ", NONE)", x -> x.ways(n, -1), -1);
            Due.none(NeckKnots::new, "ways(" + n + ", 1)", x -> x.ways(n, 1), -1);
        }
        Due.none(() -> Due.ruled("bars"), "ways() when all is barred", x -> x.ways(5, -1), 0);
    }

    private static void word() {
        Due.sentence("22", "Of the i-th PROPER WORD of n MOVES the PLACE of MOVE k. NONE.");
        for (int n = 3; n <= 12; n++) {
            int length = n;
            int last = (1 << (n - 2)) - 1;
            Due.none(NeckKnots::new, "word(" + n + ", 0, 0)", x -> x.word(length, 0, 0), 0);
            Due.none(NeckKnots::new, "word(" + n + ", last, 0)", x -> x.word(length, last, 0), n == 3 ? 1 : 2);
            Due.none(NeckKnots::new, "word(" + n + ", last, n - 1)", x -> x.word(length, last, length - 1), 2);
            Due.none(NeckKnots::new, "word(" + n + ", last, n)", x -> x.word(length, last, length), -1);
            Due.none(NeckKnots::new, "word(" + n + ", last + 1, 0)", x -> x.word(length, last + 1, 0), -1);
            Due.none(NeckKnots::new, "word(" + n + ", -1, 0)", x -> x.word(length, -1, 0), -1);
            Due.none(NeckKnots::new, "word(" + n + ", 0, -1)", x -> x.word(length, 0, -1), -1);
        }
        for (int n : new int[] {2, 13, 0, -1, LEAST, MOST}) {
            Due.none(NeckKnots::new, "word(" + n + ", 0, 0)", x -> x.word(n, 0, 0), -1);
        }
        for (int bad : new int[] {LEAST, MOST}) {
            Due.none(NeckKnots::new, "word(5, " + bad + ", 0)", x -> x.word(5, bad, 0), -1);
            Due.none(NeckKnots::new, "word(5, 0, " + bad + ")", x -> x.word(5, 0, bad), -1);
        }
        Due.none(() -> Due.ruled("bars"), "word() when all is barred", x -> x.word(5, 0, 0), -1);
        Due.none(() -> Due.ruled("bars if at = 0 and place = 0"), "word() when the first ones are barred", x -> x.word(4, 0, 0), 1);
    }

    private static void rank() {
        Due.sentence("23", "Which PROPER WORD a KNOT's MOVES are. NONE (not one; START aside).");
        for (int start = 0; start <= 1; start++) {
            Due.due("the first of 3", Due.with(start, 1, 0, 1, 2).rank(0), 0);
            Due.due("the last of 3", Due.with(start, 1, 1, 0, 2).rank(0), 1);
            Due.due("the first of 12", Due.with(start, 1, 0, 1, 0, 1, 0, 1, 0, 1, 0, 1, 0, 2).rank(0), 0);
            Due.due("the last of 12", Due.with(start, 1, 2, 1, 2, 1, 2, 1, 2, 1, 2, 1, 0, 2).rank(0), 1023);
        }
        int[][] not = {{}, {2}, {0, 2}, {0, 1, 0}, {2, 0, 2}, {0, 2, 1}, {0, 1, 2, 0}, {1, 2, 0, 2}};
        for (int[] places : not) {
            Due.none(() -> Due.with(0, 1, places), "rank() of " + places.length, x -> x.rank(0), -1);
        }
        for (int knot : new int[] {3, -1, LEAST, MOST}) {
            Due.none(PromisesBoundsTest::some, "rank(" + knot + ")", x -> x.rank(knot), -1);
        }
        Due.none(() -> {
            NeckKnots x = Due.with(0, 1, 0, 1, 2);
            Due.rule(x, "bars");
            return x;
        }, "rank() of one that is barred", x -> x.rank(0), -1);
        NeckKnots x = Due.with(0, 9, 0, 1, 2);
        Due.rule(x, "bars if thick = 9");
        Due.due("its thickness is that of words", x.rank(0), 0);
        x.terms(2, 9);
        Due.due("barred by that", x.rank(0), -1);
    }

    private static void best() {
        Due.sentence("24", "The BEST for CLOTH 1 .. 200: how many MOVES (what 0), LEAN without sign (1), TWISTS (2),"
                + " what it TAKES (3), the PLACE of MOVE k (4 + k). NONE.");
        int[] due = {3, 0, 0, 12, 0, 1, 2, -1, -1};
        for (int what = 0; what < due.length; what++) {
            int asked = what;
            Due.none(NeckKnots::new, "best(12, " + what + ")", x -> x.best(12, asked), due[what]);
            Due.none(NeckKnots::new, "best(11, " + what + ")", x -> x.best(11, asked), -1);
            Due.none(NeckKnots::new, "best(0, " + what + ")", x -> x.best(0, asked), -1);
            Due.none(NeckKnots::new, "best(201, " + what + ")", x -> x.best(201, asked), -1);
            Due.none(() -> Due.ruled("bars"), "best(200, " + what + ") when all is barred", x -> x.best(200, asked), -1);
        }
        for (int what : new int[] {-1, 16, LEAST, MOST}) {
            Due.none(NeckKnots::new, "best(200, " + what + ")", x -> x.best(200, what), -1);
        }
        for (int cloth : new int[] {-1, LEAST, MOST}) {
            Due.none(NeckKnots::new, "best(" + cloth + ", 0)", x -> x.best(cloth, 0), -1);
            Due.none(() -> Due.ruled("takes 0"), "best(" + cloth + ", 3)", x -> x.best(cloth, 3), -1);
        }
        Due.none(() -> Due.ruled("takes 0"), "best(1, 3)", x -> x.best(1, 3), 0);
        Due.none(() -> Due.ruled("takes 0"), "best(0, 3)", x -> x.best(0, 3), -1);
        Due.none(() -> Due.ruled("takes 0;takes 1 if at = 0"), "best(1, 3)", x -> x.best(1, 3), 1);
        Due.none(NeckKnots::new, "best(200, 0)", x -> x.best(200, 0), 11);
        Due.none(NeckKnots::new, "best(20, 1)", x -> x.best(20, 1), 0);
        Due.none(NeckKnots::new, "best(20, 2)", x -> x.best(20, 2), 2);
        Due.none(NeckKnots::new, "best(200, 1)", x -> x.best(200, 1), 0);
        Due.none(NeckKnots::new, "best(200, 2)", x -> x.best(200, 2), 8);
        Due.none(NeckKnots::new, "best(200, 14)", x -> x.best(200, 14), 2);
        Due.none(NeckKnots::new, "best(200, 15)", x -> x.best(200, 15), -1);
        Due.none(() -> Due.ruled("takes 20;bars if at = 0 and side = 0"), "the last place of 10", x -> x.best(200, 13), 2);
    }

    private static void change() {
        Due.sentence("25", "CHANGED: how many PLACES are unlike (what 0), the PLACE of MOVE k (1 + k). NONE (no PROPER WORD of as many).");
        int[] due = {1, 0, 1, 2, -1};
        for (int what = 0; what < due.length; what++) {
            int asked = what;
            Due.none(() -> Due.with(0, 1, 2, 1, 2), "change(0, " + what + ")", x -> x.change(0, asked), due[what]);
            Due.none(() -> Due.with(0, 1, 2, 1), "change(0, " + what + ") of 2", x -> x.change(0, asked), -1);
            Due.none(() -> Due.with(0, 1), "change(0, " + what + ") of none", x -> x.change(0, asked), -1);
            Due.none(() -> {
                NeckKnots x = Due.with(0, 1, 2, 1, 2);
                Due.rule(x, "bars if at = 2");
                return x;
            }, "change(0, " + what + ") when all is barred", x -> x.change(0, asked), -1);
        }
        Due.none(PromisesBoundsTest::some, "change(1, 12) of 12", x -> x.change(1, 12), 2);
        Due.none(PromisesBoundsTest::some, "change(1, 13) of 12", x -> x.change(1, 13), -1);
        for (int what : new int[] {-1, LEAST, MOST}) {
            Due.none(PromisesBoundsTest::some, "change(0, " + what + ")", x -> x.change(0, what), -1);
        }
        for (int knot : new int[] {3, -1, LEAST, MOST}) {
            Due.none(PromisesBoundsTest::some, "change(" + knot + ", 0)", x -> x.change(knot, 0), -1);
        }
        Due.none(PromisesBoundsTest::some, "change(0, 0) of a proper one", x -> x.change(0, 0), 0);
    }

    private static void alike() {
        Due.sentence("26", "Of PROPER WORDS of n MOVES how many unlike FRONTS there are (what 0),"
                + " how many WORDS have the commonest one (1). NONE.");
        Due.none(NeckKnots::new, "alike(3, 0)", x -> x.alike(3, 0), 2);
        Due.none(NeckKnots::new, "alike(3, 1)", x -> x.alike(3, 1), 1);
        // the centre first, then one side or both: a front of the centre alone can't be
        Due.none(NeckKnots::new, "alike(12, 0)", x -> x.alike(12, 0), 4);
        NeckKnots again = new NeckKnots();
        int[][] due = {{12, 4}, {3, 2}, {5, 4}, {3, 2}};
        for (int[] d : due) {
            Due.due("alike(" + d[0] + ", 0) again", again.alike(d[0], 0), d[1]);
        }
        Due.due("alike(5, 1) again", again.alike(5, 1), 3);
        Due.due("alike(3, 1) again", again.alike(3, 1), 1);
        Due.none(() -> Due.ruled("bars if at = 0 and place = 1"), "alike(3, 0) of one word", x -> x.alike(3, 0), 1);
        Due.none(() -> Due.ruled("bars"), "alike(3, 0) of none", x -> x.alike(3, 0), 0);
        for (int n : new int[] {2, 13, 0, -1, LEAST, MOST}) {
            Due.none(NeckKnots::new, "alike(" + n + ", 0)", x -> x.alike(n, 0), -1);
            Due.none(NeckKnots::new, "alike(" + n + ", 1)", x -> x.alike(n, 1), -1);
        }
        for (int what : new int[] {-1, 2, LEAST, MOST}) {
            Due.none(NeckKnots::new, "alike(4, " + what + ")", x -> x.alike(4, what), -1);
        }
    }

    private static void sight() {
        Due.sentence("27", "A SIGHT: how many there are. -1; -5.");
        NeckKnots x = new NeckKnots();
        for (int i = 1; i <= 12; i++) {
            Due.due("sight()", x.sight(i - 1, 2), i);
            Due.due("status()", x.status(), 0);
        }
        for (int[] b : new int[][] {{-1, 0}, {12, 0}, {0, -1}, {0, 3}, {LEAST, 0}, {MOST, 0}, {0, LEAST}, {0, MOST}}) {
            String call = "sight(" + b[0] + ", " + b[1] + ")";
            Due.refused(PromisesBoundsTest::some, call, y -> y.sight(b[0], b[1]), -1);
            Due.refused(PromisesBoundsTest::full, call + " of a 13th", y -> y.sight(b[0], b[1]), -1);
        }
        Due.refused(PromisesBoundsTest::full, "a 13th", y -> y.sight(0, 0), -5);
        Due.refused(PromisesBoundsTest::full, "a 13th as one that stands", y -> y.sight(11, 2), -5);
        Due.sentence("28", "SIGHTS are none then: how many there were.");
        Due.due("forget() of 12", x.forget(), 12);
        Due.due("count(2)", x.count(2), 0);
        Due.due("all fit", x.fits(3, 0, -1, 0), 2);
        Due.due("forget() of none", x.forget(), 0);
        Due.due("sight() behind it", x.sight(0, 0), 1);
        NeckKnots y = full();
        y.boy(1);
        y.forget();
        Due.due("forget() leaves status()", y.status(), -5);
    }

    private static void fits() {
        Due.sentence("29", "FITTING WORDS of n MOVES, in a MIRROR (1) or not (0): how many (i NONE), of the i-th the PLACE of MOVE k"
                + " (as the WORD has it). NONE.");
        Supplier<NeckKnots> left = () -> {
            NeckKnots x = new NeckKnots();
            x.sight(0, 0);
            return x;
        };
        Due.none(left, "fits(4, 0, NONE, 0)", x -> x.fits(4, 0, -1, 0), 1);
        Due.none(left, "fits(4, 1, NONE, 0)", x -> x.fits(4, 1, -1, 0), 1);
        int[] word = {0, 1, 0, 2, -1};
        int[] seen = {1, 0, 1, 2, -1};
        for (int k = 0; k < 5; k++) {
            int move = k;
            Due.none(left, "fits(4, 0, 0, " + k + ")", x -> x.fits(4, 0, 0, move), word[k]);
            Due.none(left, "fits(4, 1, 0, " + k + ")", x -> x.fits(4, 1, 0, move), seen[k]);
            Due.none(left, "fits(4, 0, 1, " + k + ")", x -> x.fits(4, 0, 1, move), -1);
        }
        for (int k : new int[] {-1, LEAST, MOST}) {
            Due.none(left, "fits(4, 0, NONE, " + k + ")", x -> x.fits(4, 0, -1, k), 1);
            Due.none(left, "fits(4, 0, 0, " + k + ")", x -> x.fits(4, 0, 0, k), -1);
        }
        for (int i : new int[] {-2, LEAST, MOST}) {
            Due.none(left, "fits(4, 0, " + i + ", 0)", x -> x.fits(4, 0, i, 0), -1);
        }
        for (int mirror : new int[] {-1, 2, LEAST, MOST}) {
            Due.none(left, "fits(4, " + mirror + ", NONE, 0)", x -> x.fits(4, mirror, -1, 0), -1);
        }
        for (int n : new int[] {2, 13, 0, -1, LEAST, MOST}) {
            Due.none(NeckKnots::new, "fits(" + n + ", 0, NONE, 0)", x -> x.fits(n, 0, -1, 0), -1);
        }
        Due.none(NeckKnots::new, "fits(3, 0, NONE, 0)", x -> x.fits(3, 0, -1, 0), 2);
        Due.none(NeckKnots::new, "fits(12, 1, NONE, 0)", x -> x.fits(12, 1, -1, 0), 1024);
        Due.none(NeckKnots::new, "fits(12, 1, 1023, 11)", x -> x.fits(12, 1, 1023, 11), 2);
        Due.none(NeckKnots::new, "fits(12, 1, 1024, 11)", x -> x.fits(12, 1, 1024, 11), -1);
        Due.none(() -> Due.ruled("bars"), "fits() when all is barred", x -> x.fits(4, 0, -1, 0), 0);
        Due.none(() -> Due.ruled("bars"), "fits() when all is barred", x -> x.fits(4, 0, 0, 0), -1);
        Due.sentence("30", "To LOOK: the MOVE. NONE (none is FITTING).");
        Due.none(NeckKnots::new, "look(3, 0)", x -> x.look(3, 0), 0);
        Due.none(NeckKnots::new, "look(12, 1)", x -> x.look(12, 1) >= 0 ? 1 : 0, 1);
        Due.none(() -> Due.ruled("bars"), "look() when all is barred", x -> x.look(4, 0), -1);
        Due.none(() -> {
            NeckKnots x = new NeckKnots();
            x.sight(2, 1);
            return x;
        }, "look() when none is fitting", x -> x.look(3, 0), -1);
        for (int n : new int[] {2, 13, 0, -1, LEAST, MOST}) {
            Due.none(NeckKnots::new, "look(" + n + ", 0)", x -> x.look(n, 0), -1);
        }
        for (int mirror : new int[] {-1, 2, LEAST, MOST}) {
            Due.none(NeckKnots::new, "look(4, " + mirror + ")", x -> x.look(4, mirror), -1);
        }
    }

    private static void boy() {
        Due.sentence("31", "A BOY: the number. -1; -5.");
        NeckKnots x = new NeckKnots();
        for (int b = 0; b < 6; b++) {
            Due.due("boy()", x.boy(b == 0 ? 1 : 200), b);
            Due.due("status()", x.status(), 0);
        }
        for (int cloth : new int[] {0, 201, -1, LEAST, MOST}) {
            Due.refused(PromisesBoundsTest::some, "boy(" + cloth + ")", y -> y.boy(cloth), -1);
            Due.refused(PromisesBoundsTest::full, "boy(" + cloth + ") of a 7th", y -> y.boy(cloth), -1);
        }
        Due.refused(PromisesBoundsTest::full, "a 7th", y -> y.boy(1), -5);
        Due.sentence("32", "BOYS are none then: how many there were.");
        Due.due("home() of six", x.home(), 6);
        Due.due("count(1)", x.count(1), 0);
        Due.due("wear(1)", x.wear(1), -1);
        Due.due("home() of none", x.home(), 0);
        Due.due("boy() behind it", x.boy(9), 0);
        NeckKnots y = full();
        y.sight(0, 9);
        y.home();
        Due.due("home() leaves status()", y.status(), -1);
        Due.sentence("33", "WEARING: how many BOYS (what 0), the KNOT of BOY b (1 + b; 100: none). NONE.");
        Due.none(NeckKnots::new, "wear(0) without boys", z -> z.wear(0), 0);
        Due.none(NeckKnots::new, "wear(1) without boys", z -> z.wear(1), -1);
        Due.none(PromisesBoundsTest::some, "wear(0)", z -> z.wear(0), 1);
        Due.none(PromisesBoundsTest::some, "wear(1)", z -> z.wear(1), 0);
        Due.none(PromisesBoundsTest::full, "wear(6) of six", z -> z.wear(6), 100);
        Due.none(PromisesBoundsTest::full, "wear(7) of six", z -> z.wear(7), -1);
        for (int what : new int[] {2, 100, -1, LEAST, MOST}) {
            Due.none(PromisesBoundsTest::some, "wear(" + what + ")", z -> z.wear(what), -1);
        }
        Due.none(() -> {
            NeckKnots z = some();
            z.home();
            z.boy(8);
            return z;
        }, "wear(1) of one with too little", z -> z.wear(1), 100);
    }

    private static void hands() {
        Due.sentence("34", "HANDS, kept as the latest: how many WORDS are PROPER. -1.");
        int[][] bad = {{-1, 1, 3}, {1000001, 1, 3}, {0, 0, 3}, {0, 101, 3}, {0, 1, 2}, {0, 1, 13}, {LEAST, 1, 3}, {MOST, 1, 3}, {0, LEAST, 3},
            {0, MOST, 3}, {0, 1, LEAST}, {0, 1, MOST}};
        for (int[] b : bad) {
            Due.refused(PromisesBoundsTest::some, "hands(" + b[0] + ", " + b[1] + ", " + b[2] + ")", x -> x.hands(b[0], b[1], b[2]), -1);
        }
        NeckKnots x = Due.ruled("bars");
        Due.due("none is proper", x.hands(1000000, 100, 12), 0);
        Due.due("status()", x.status(), 0);
        Due.due("its last place", x.drawn(13) >= 0 ? 1 : 0, 1);
        x.hands(0, 1, 3);
        Due.due("the latest is shorter", x.drawn(5), -1);
        Due.due("the latest has three", x.drawn(2) * 100 + x.drawn(3) * 10 + x.drawn(4), 21);
        Due.sentence("35", "Of the latest HANDS how many PROPER ones have a GRIP of NEED or more (what 0),"
                + " the greatest LEAN without sign of PROPER ones (1; NONE: none), the PLACE of MOVE k of the last WORD (2 + k). NONE.");
        for (int what : new int[] {0, 1, 2, 13, -1, LEAST, MOST}) {
            Due.none(NeckKnots::new, "drawn(" + what + ") ahead of any", y -> y.drawn(what), -1);
        }
        Due.none(() -> {
            NeckKnots y = new NeckKnots();
            y.hands(0, 0, 3);
            return y;
        }, "drawn(0) behind a refused one", y -> y.drawn(0), -1);
        Due.due("drawn(0), none is proper", x.drawn(0), 0);
        Due.due("drawn(1), none is proper", x.drawn(1), -1);
        for (int what : new int[] {5, 14, -1, LEAST, MOST}) {
            Due.none(() -> x, "drawn(" + what + ") of 3", y -> y.drawn(what), -1);
        }
        drawnByNeed();
    }

    /** The first seed of which one word of m moves is proper. */
    private static int properSeed(NeckKnots x, int m) {
        for (int seed = 0; seed < 100; seed++) {
            if (x.hands(seed, 1, m) == 1) {
                return seed;
            }
        }
        return -1;
    }

    private static void drawnByNeed() {
        int seed = properSeed(new NeckKnots(), 4);
        NeckKnots x = new NeckKnots();
        int[] due = {1, 1, 0};
        for (int i = 0; i < due.length; i++) {
            x.terms(1, 3 + i);
            Due.due("hands() of one that is proper", x.hands(seed, 1, 4), 1);
            Due.due("drawn(0) with need " + (3 + i), x.drawn(0), due[i]);
        }
        int lean = 0;
        for (int k = 0; k < 4; k++) {
            lean += x.drawn(2 + k) == 0 ? 1 : x.drawn(2 + k) == 1 ? -1 : 0;
        }
        Due.due("drawn(1)", x.drawn(1), Math.abs(lean));
        NeckKnots y = new NeckKnots();
        Due.due("seed of 3", y.hands(properSeed(new NeckKnots(), 3), 1, 3), 1);
        Due.due("a lean of 0 is none that is not there", y.drawn(1), 0);
        Due.rule(y, "bars");
        Due.due("the next have none", y.hands(0, 100, 3), 0);
        Due.due("drawn(0) of the next", y.drawn(0), 0);
        Due.due("drawn(1) of the next", y.drawn(1), -1);
        NeckKnots right = Due.ruled("bars if at = 0 and not place = 1");
        int rightSeed = properSeed(right, 4);
        Due.due("1012 leans to the right", right.hands(rightSeed, 1, 4) * 10 + right.drawn(1), 11);
    }

    private static void images() {
        Due.sentence("36", "IMAGE k is kept: 0; -1.");
        for (int k = 0; k < 2; k++) {
            int image = k;
            NeckKnots x = some();
            Due.due("image(" + k + ")", x.image(k), 0);
            Due.due("status()", x.status(), 0);
            Due.due("count(4) stays", x.count(4) > 0 ? 1 : 0, 1);
            Due.due("image(" + k + ") once more", x.image(image), 0);
        }
        for (int k : new int[] {-1, 2, LEAST, MOST}) {
            Due.refused(PromisesBoundsTest::some, "image(" + k + ")", x -> x.image(k), -1);
        }
        Due.sentence("37", "BACK to IMAGE k: 0. -1; -2 it was not kept.");
        for (int k : new int[] {-1, 2, LEAST, MOST}) {
            Due.refused(PromisesBoundsTest::some, "back(" + k + ")", x -> x.back(k), -1);
            Due.refused(NeckKnots::new, "back(" + k + ") of none: -1 ahead of -2", x -> x.back(k), -1);
        }
        Due.refused(NeckKnots::new, "back(0) of none", x -> x.back(0), -2);
        Due.refused(PromisesBoundsTest::some, "back(1) of one", x -> x.back(1), -2);
        NeckKnots x = new NeckKnots();
        x.image(1);
        Due.due("back(0) when 1 is kept", x.back(0), -2);
        x.knot(0, 1, 1);
        Due.due("back(1)", x.back(1), 0);
        Due.due("status()", x.status(), 0);
        Due.due("count(0)", x.count(0), 0);
        fullImage();
        wornImage();
    }

    /** Fills a drawer to the full; what is in it is told by turn 0 or 1. */
    private static void fill(NeckKnots x, int turn) {
        for (int i = 0; i < 8; i++) {
            x.knot((i + turn) % 2, turn == 0 ? 8 - i : 1 + i % 2, 100 + 9 * turn + i);
        }
        int[] round = turn == 0 ? new int[] {0, 1, 2} : new int[] {2, 1, 0};
        for (int at = 0; at < 12 - turn; at++) {
            x.lay(7, round[at % 3]);
        }
        for (int b = 0; b < 6; b++) {
            x.boy(turn == 0 ? 9 + b : 200);
        }
        for (int k = 0; k < 12; k++) {
            x.sight(turn == 0 ? k : 11 - k, turn == 0 ? k == 11 ? 2 : k % 2 : k % 3);
        }
        for (int i = 0; i < 6; i++) {
            Texts.law(x, "takes " + (i + turn));
        }
        x.terms(0, 3 + turn);
        x.terms(1, 4 + turn);
        x.terms(2, 5 + turn);
        x.force(5 - turn);
    }

    /** All of a full drawer comes back, behind an empty one and one that is full of other things. */
    private static void fullImage() {
        NeckKnots x = new NeckKnots();
        x.image(1);
        fill(x, 0);
        x.image(0);
        x.back(1);
        for (int i = 0; i < 4; i++) {
            Due.due("count(" + i + ") of the empty one", x.count(i), 0);
        }
        fill(x, 1);
        x.back(0);
        int[] counts = {8, 6, 12, 6};
        for (int i = 0; i < 4; i++) {
            Due.due("count(" + i + ") of the full one", x.count(i), counts[i]);
        }
        for (int i = 0; i < 8; i++) {
            Due.due("start of " + i, x.of(i, 0), i % 2);
            Due.due("thick of " + i, x.of(i, 1), 8 - i);
            Due.due("cloth of " + i, x.of(i, 2), 100 + i);
        }
        Due.due("moves of 7", x.of(7, 3), 12);
        for (int at = 0; at < 12; at++) {
            Due.due("move " + at, x.of(7, 12 + at), at % 3);
        }
        for (int i = 0; i < 3; i++) {
            Due.due("term " + i, x.count(12 + i), 3 + i);
        }
        Due.due("the one word that fits 12 sights", x.fits(12, 0, -1, 0), 1);
        for (int k = 0; k < 12; k++) {
            Due.due("its place " + k, x.fits(12, 0, 0, k), k == 11 ? 2 : k % 2);
        }
        Due.due("force", x.count(11), 5);
        Due.due("the 6th law", x.asks(0, 0, 0), 5);
        x.force(0);
        Due.due("the first law", x.asks(0, 0, 0), 0);
    }

    /** Boys, and whether a knot is through, as they were then. */
    private static void wornImage() {
        NeckKnots x = new NeckKnots();
        Due.tied(x, 0, 1, 0, 1, 2);
        x.knot(0, 1, 200);
        Due.lay(x, 1, 1, 0, 2);
        x.boy(8);
        x.boy(9);
        x.image(0);
        x.draw(0);
        x.through(1);
        x.home();
        x.boy(9);
        x.boy(8);
        Due.due("wear(1) ahead", x.wear(1), 1);
        x.back(0);
        Due.due("wear(1) behind", x.wear(1), 100);
        Due.due("wear(2) behind", x.wear(2), 0);
        Due.due("through", x.of(0, 4), 1);
        Due.due("not through", x.of(1, 4), 0);
    }

    private static void countsOfEach() {
        Due.sentence("38", "0 KNOTS, 1 BOYS, 2 SIGHTS, 3 LAWS, 4 how many can be undone, 5 bytes of the TAPE,");
        NeckKnots x = new NeckKnots();
        int[] due = {3, 4, 7, 2, 6, 5};
        for (int i = 0; i < 3; i++) {
            x.knot(0, 1, 200);
        }
        for (int i = 0; i < 4; i++) {
            x.boy(9);
        }
        for (int i = 0; i < 7; i++) {
            x.sight(i, 0);
        }
        for (int i = 0; i < 2; i++) {
            Texts.law(x, "bars if at = 9");
        }
        for (int i = 0; i < 6; i++) {
            x.mirror(i % 3);
        }
        Texts.put(x, Texts.bytes("12345"));
        for (int what = 0; what < due.length; what++) {
            Due.due("count(" + what + ")", x.count(what), due[what]);
        }
        x.undo();
        x.undo();
        x.home();
        x.forget();
        x.end(1);
        int[] less = {3, 0, 0, 2, 4, 1};
        for (int what = 0; what < less.length; what++) {
            Due.due("count(" + what + ") then", x.count(what), less[what]);
        }
    }

    private static void counts() {
        Due.sentence("38", "6 .. 10 how many calls were REFUSED by -1, -2, -3, -5, -6 (IMAGES do not keep that)");
        NeckKnots x = full();
        int[] ahead = new int[5];
        for (int i = 0; i < 5; i++) {
            ahead[i] = x.count(6 + i);
        }
        x.image(0);
        x.boy(0);
        x.draw(8);
        x.draw(0);
        x.boy(1);
        x.orders();
        for (int i = 0; i < 5; i++) {
            Due.due("count(" + (6 + i) + ")", x.count(6 + i), ahead[i] + 1);
        }
        Texts.orders(x, "mirror 9");
        Due.due("orders() are refused by -3 alone", x.count(8), ahead[2] + 2);
        Due.due("not by -2", x.count(7), ahead[1] + 1);
        x.back(0);
        for (int i = 0; i < 5; i++) {
            Due.due("count(" + (6 + i) + ") behind back()", x.count(6 + i), ahead[i] + (i == 2 ? 2 : 1));
        }
        NeckKnots zero = Due.with(0, 1, 0);
        int[] answers = {zero.draw(0), zero.mirror(0), Texts.orders(zero, "mirror 0 if 1=2"), zero.draw(0) + 3, zero.lay(0, 0) - 1, zero.undo(),
            zero.image(0), zero.back(0), Texts.row(zero, 9), Texts.law(zero, "bars"), zero.boy(1)};
        for (int i = 0; i < answers.length; i++) {
            Due.due("answer " + i, answers[i], 0);
        }
        int[] one = {0, 0, 1, 0, 0};
        for (int i = 0; i < 5; i++) {
            Due.due("count(" + (6 + i) + "): an answer 0 is none that is refused", zero.count(6 + i), one[i]);
        }
        Due.sentence("38", "11 the LAW in FORCE, 12 .. 14 TERMS 0 .. 2. NONE for others.");
        Due.due("count(11)", x.count(11), -1);
        x.force(5);
        Due.due("count(11)", x.count(11), 5);
        int[] terms = {0, 3, 2};
        for (int i = 0; i < 3; i++) {
            Due.due("count(" + (12 + i) + ")", x.count(12 + i), terms[i]);
        }
        for (int what : new int[] {-1, 15, 16, LEAST, MOST}) {
            Due.none(PromisesBoundsTest::full, "count(" + what + ")", y -> y.count(what), -1);
        }
        int[] most = {8, 6, 12, 6, 0, 0};
        for (int i = 0; i < most.length; i++) {
            Due.due("count(" + i + ") of a full drawer", full().count(i), most[i]);
        }
        Due.due("count(5) of a full tape", taped(400).get().count(5), 400);
    }

    /** Each of the sixteen calls, once refused and once not. */
    private static void status() {
        Due.sentence("39", "What the latest call of knot, terms, row, law, orders, force, lay, through, draw, mirror, undo, sight,"
                + " boy, hands, image, back was REFUSED by; 0 if it was not, or ahead of any.");
        Due.due("ahead of any", new NeckKnots().status(), 0);
        NeckKnots x = Due.with(0, 1);
        int[] got = {x.knot(2, 1, 1), x.status(), x.knot(0, 1, 1), x.status(), x.terms(0, 10), x.status(), x.terms(0, 5), x.status(),
            x.row(), x.status(), Texts.row(x, 9), x.status(), x.law(), x.status(), Texts.law(x, "bars"), x.status(),
            x.orders(), x.status(), Texts.orders(x, "mirror 0"), x.status(), x.force(1), x.status(), x.force(-1), x.status(),
            x.lay(0, 3), x.status(), x.lay(0, 0), x.status(), x.through(0), x.status(), x.lay(0, 1) + x.lay(0, 2), x.status(),
            x.through(9), x.status(), x.through(0), x.status(), x.draw(9), x.status(), x.draw(0), x.status(),
            x.mirror(9), x.status(), x.mirror(0), x.status(), x.undo() - x.terms(0, 0), x.status(), x.undo(), x.status(),
            x.sight(12, 0), x.status(), x.sight(0, 0), x.status(), x.boy(0), x.status(), x.boy(1), x.status(),
            x.hands(0, 0, 3), x.status(), x.hands(0, 1, 3), x.status(), x.image(2), x.status(), x.image(0), x.status(),
            x.back(1), x.status(), x.back(0), x.status(), x.undo(), x.status()};
        int[] due = {-1, -1, 1, 0, -1, -1, 0, 0, -6, -6, 0, 0, -6, -6, 0, 0, -6, -6, 1, 0, -2, -2, -1, 0, -1, -1, 1, 0, -3, -3, 5, 0,
            -2, -2, 3, 0, -2, -2, 3, 0, -2, -2, 3, 0, -2, 0, -3, -3, -1, -1, 1, 0, -1, -1, 0, 0, -1, -1, 0, 0, -1, -1, 0, 0,
            -2, -2, 0, 0, -3, -3};
        for (int i = 0; i < due.length; i++) {
            Due.due((i % 2 == 0 ? "call " : "status() behind call ") + i / 2, got[i], due[i]);
        }
        NeckKnots y = some();
        Due.due("status() ahead", y.status(), -1);
        y.forget();
        y.home();
        y.feed(0, 0, 0, 0, 0);
        y.end(-1);
        y.end(0);
        y.ways(2, 0);
        y.best(0, 0);
        y.wear(9);
        y.fits(4, 0, -1, 0);
        y.asks(9, 9, 9);
        y.of(9, 9);
        y.count(99);
        Due.due("status() behind the others", y.status(), -1);
    }

    private static void constants() {
        Due.sentence("C", "`NONE = -1`: There is none.");
        Due.due("NONE", NeckKnots.NONE, -1);
        Due.sentence("C", "`NOTHING = -1000`: What is not there, where it could be below 0.");
        Due.due("NOTHING", NeckKnots.NOTHING, -1000);
        Due.due("of() below 0", Due.with(0, 1, 1).of(0, 9), -1);
        Due.due("of() that is not there", Due.with(0, 1, 1).of(1, 9), NeckKnots.NOTHING);
    }

    public static void main(String[] args) throws IOException {
        Due.readDocument();
        List.<Runnable>of(PromisesBoundsTest::newObject, PromisesBoundsTest::knot, PromisesBoundsTest::ofEach,
                PromisesBoundsTest::of, PromisesBoundsTest::terms, PromisesBoundsTest::feed, PromisesBoundsTest::end,
                PromisesBoundsTest::row, PromisesBoundsTest::law, PromisesBoundsTest::orders).forEach(Runnable::run);
        List.<Runnable>of(PromisesBoundsTest::fault, PromisesBoundsTest::force, PromisesBoundsTest::asksNext,
                PromisesBoundsTest::asks, PromisesBoundsTest::lay, PromisesBoundsTest::acts, PromisesBoundsTest::undoKept,
                PromisesBoundsTest::undoRefused, PromisesBoundsTest::front, PromisesBoundsTest::ways).forEach(Runnable::run);
        List.<Runnable>of(PromisesBoundsTest::word, PromisesBoundsTest::rank, PromisesBoundsTest::best,
                PromisesBoundsTest::change, PromisesBoundsTest::alike, PromisesBoundsTest::sight, PromisesBoundsTest::fits,
                PromisesBoundsTest::boy, PromisesBoundsTest::hands, PromisesBoundsTest::images).forEach(Runnable::run);
        countsOfEach();
        counts();
        status();
        constants();
        Due.allTold("C");
        for (int promise = 1; promise <= 39; promise++) {
            Due.allTold(String.valueOf(promise));
        }
        Due.end();
    }
}
