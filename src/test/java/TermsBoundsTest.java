import java.io.IOException;
import java.util.ArrayList;
import java.util.List;

/** Each sentence of the document's terms I and II has a test of its own here. */
public final class TermsBoundsTest {
    private static final int[] FAR = {Integer.MIN_VALUE, Integer.MAX_VALUE};

    private static NeckKnots eightKnots() {
        NeckKnots x = new NeckKnots();
        for (int i = 0; i < 8; i++) {
            x.knot(0, 1, 200);
        }
        return x;
    }

    private static NeckKnots twelveMoves() {
        return Due.with(0, 1, 0, 1, 0, 1, 0, 1, 0, 1, 0, 1, 0, 1);
    }

    // ---- What it is ----

    private static void calls() {
        Due.sentence("0", "An object is used for at most 512 calls after it has been made");
        NeckKnots x = new NeckKnots();
        x.knot(0, 1, 3);
        for (int i = 0; i < 255; i++) {
            x.lay(0, 0);
            x.draw(0);
        }
        Due.due("the 512th call, lay()", x.lay(0, 1), 1);
        NeckKnots y = new NeckKnots();
        for (int i = 0; i < 511; i++) {
            y.terms(3, 0);
        }
        Due.due("the 512th call, count(6)", y.count(6), 511);
        NeckKnots z = new NeckKnots();
        z.image(0);
        for (int i = 0; i < 127; i++) {
            z.feed(0x62617273, 0, 0, 0, 0);
            z.end(4);
            Due.due("law() again and again", z.law(), 0);
            z.back(0);
        }
        z.feed(0x62617273, 0, 0, 0, 0);
        z.end(4);
        Due.due("the 512th call, law()", z.law(), 0);
    }

    // ---- I ----

    private static void knots() {
        Due.sentence("I", "KNOTS 0 .. 7 (8 at most)");
        NeckKnots x = new NeckKnots();
        for (int i = 0; i < 8; i++) {
            Due.due("of() ahead of knot " + i, x.of(i, 3), -1000);
            Due.due("knot()", x.knot(0, 1, 100 + i), i);
        }
        for (int i = 0; i < 8; i++) {
            Due.due("of(" + i + ", 2)", x.of(i, 2), 100 + i);
        }
        Due.due("of(8, 2)", x.of(8, 2), -1000);
        Due.refused(TermsBoundsTest::eightKnots, "a 9th knot()", y -> y.knot(0, 1, 1), -5);
        Due.due("row() of nine", Texts.row(new NeckKnots(), new int[27]), 0);
        NeckKnots z = new NeckKnots();
        int[] nine = new int[27];
        for (int i = 0; i < 9; i++) {
            nine[3 * i + 1] = 1;
            nine[3 * i + 2] = i + 1;
        }
        Due.due("row() of nine", Texts.row(z, nine), 8);
        Due.due("the 8th", z.of(7, 2), 8);
        Due.due("count(0)", z.count(0), 8);
    }

    private static void starts() {
        Due.sentence("I", "a START 0 (out) or 1 (in)");
        for (int start = 0; start <= 1; start++) {
            NeckKnots x = Due.with(start, 1, 0);
            Due.due("of(0, 0)", x.of(0, 0), start);
            Due.due("is move 0 out", x.front(0, 0), start == 0 ? 0 : -1);
        }
        for (int bad : new int[] {-1, 2, FAR[0], FAR[1]}) {
            Due.refused(NeckKnots::new, "knot(" + bad + ", 1, 1)", x -> x.knot(bad, 1, 1), -1);
        }
    }

    private static void sizes() {
        Due.sentence("I", "THICK 1 .. 9, CLOTH 1 .. 200, MOVES, 12 at most");
        for (int good : new int[] {1, 9}) {
            NeckKnots x = new NeckKnots();
            Due.due("knot(0, " + good + ", 1)", x.knot(0, good, 1), 0);
            Due.due("of(0, 1)", x.of(0, 1), good);
        }
        for (int bad : new int[] {0, 10, -1, FAR[0], FAR[1]}) {
            Due.refused(NeckKnots::new, "knot(0, " + bad + ", 1)", x -> x.knot(0, bad, 1), -1);
        }
        for (int good : new int[] {1, 200}) {
            NeckKnots x = new NeckKnots();
            Due.due("knot(0, 1, " + good + ")", x.knot(0, 1, good), 0);
            Due.due("of(0, 2)", x.of(0, 2), good);
        }
        for (int bad : new int[] {0, 201, -1, FAR[0], FAR[1]}) {
            Due.refused(NeckKnots::new, "knot(0, 1, " + bad + ")", x -> x.knot(0, 1, bad), -1);
        }
        NeckKnots x = Due.with(0, 1);
        for (int i = 0; i < 12; i++) {
            Due.due("lay()", x.lay(0, i % 2), i + 1);
        }
        Due.due("of(0, 3)", x.of(0, 3), 12);
        Due.due("the 12th", x.of(0, 23), 1);
        Due.refused(TermsBoundsTest::twelveMoves, "a 13th lay()", y -> y.lay(0, 0), -5);
    }

    private static void places() {
        Due.sentence("I", "each to a PLACE 0 (left), 1 (right), 2 (centre), none to that of the MOVE ahead of it");
        for (int place = 0; place < 3; place++) {
            NeckKnots x = Due.with(0, 1);
            Due.due("lay(0, " + place + ")", x.lay(0, place), 1);
            Due.due("of(0, 12)", x.of(0, 12), place);
            Due.due("lean", x.of(0, 9), place == 0 ? 1 : place == 1 ? -1 : 0);
            Due.due("centres", x.of(0, 8), place == 2 ? 1 : 0);
            for (int next = 0; next < 3; next++) {
                int same = place;
                if (next == place) {
                    Due.refused(() -> Due.with(0, 1, same), "lay() to the same place", y -> y.lay(0, same), -3);
                } else {
                    Due.due("lay() to another place", Due.with(0, 1, place).lay(0, next), 2);
                }
            }
        }
        for (int bad : new int[] {-1, 3, FAR[0], FAR[1]}) {
            Due.refused(() -> Due.with(0, 1, 0), "lay(0, " + bad + ")", x -> x.lay(0, bad), -1);
        }
        Due.due("the same place but one", Due.with(0, 1, 0, 1).lay(0, 0), 3);
    }

    private static void throughAtFirst() {
        Due.sentence("I", "put THROUGH or not (at first)");
        NeckKnots x = Due.with(0, 1);
        Due.due("of(0, 4) without moves", x.of(0, 4), 0);
        Due.lay(x, 0, 0, 1, 2);
        Due.due("of(0, 4) ahead of through()", x.of(0, 4), 0);
        x.through(0);
        Due.due("of(0, 4) behind it", x.of(0, 4), 1);
        Texts.row(x, 0, 1, 9);
        Due.due("of(1, 4) behind row()", x.of(1, 4), 0);
        x.image(0);
        Due.tied(x, 0, 1, 0, 1, 2);
        x.back(0);
        x.knot(0, 1, 9);
        Due.due("of(2, 4) where one that was through has been", x.of(2, 4), 0);
        Due.due("of(2, 3) there", x.of(2, 3), 0);
    }

    private static void sides() {
        Due.sentence("I", "The SIDE of MOVE 0 is START, of the others each the other one than that ahead.");
        for (int start = 0; start <= 1; start++) {
            NeckKnots x = Due.ruled("takes side; grips side * 5");
            x.knot(start, 1, 200);
            for (int at = 0; at < 12; at++) {
                Due.due("side of move " + at, x.asks(0, (at + 1) % 2, 0), (start + at) % 2);
                x.lay(0, (at + 1) % 2);
            }
            Due.due("six are in", x.of(0, 5), 6);
            Due.due("six are in", x.of(0, 6), 30);
        }
    }

    private static void boys() {
        Due.sentence("I", "BOYS 0 .. 5 (6 at most): CLOTH 1 .. 200.");
        NeckKnots x = new NeckKnots();
        for (int b = 0; b < 6; b++) {
            Due.due("boy()", x.boy(b == 0 ? 1 : 200), b);
        }
        Due.due("wear() of boy 5", x.wear(6), 100);
        Due.due("wear() of boy 6", x.wear(7), -1);
        Due.refused(() -> {
            NeckKnots y = new NeckKnots();
            for (int b = 0; b < 6; b++) {
                y.boy(9);
            }
            return y;
        }, "a 7th boy()", y -> y.boy(9), -5);
        for (int bad : new int[] {0, 201, -1, FAR[0], FAR[1]}) {
            Due.refused(NeckKnots::new, "boy(" + bad + ")", y -> y.boy(bad), -1);
        }
    }

    private static void sights() {
        Due.sentence("I", "SIGHTS, 12 at most: MOVE k 0 .. 11 was to a PLACE.");
        NeckKnots x = new NeckKnots();
        for (int k = 0; k < 12; k++) {
            Due.due("sight()", x.sight(k, k % 3), k + 1);
        }
        Due.refused(() -> {
            NeckKnots y = new NeckKnots();
            for (int k = 0; k < 12; k++) {
                y.sight(0, 0);
            }
            return y;
        }, "a 13th sight()", y -> y.sight(0, 0), -5);
        for (int bad : new int[] {-1, 12, FAR[0], FAR[1]}) {
            Due.refused(NeckKnots::new, "sight(" + bad + ", 0)", y -> y.sight(bad, 0), -1);
        }
        for (int bad : new int[] {-1, 3, FAR[0], FAR[1]}) {
            Due.refused(NeckKnots::new, "sight(0, " + bad + ")", y -> y.sight(0, bad), -1);
        }
        NeckKnots z = new NeckKnots();
        z.sight(11, 2);
        Due.due("all of 12 end so", z.fits(12, 0, -1, 0), 1024);
        z.sight(0, 2);
        Due.due("those of 3 never begin so", z.fits(3, 0, -1, 0), 0);
    }

    private static void terms() {
        Due.sentence("I", "0 MOOD 0 .. 9 (0 at first), 1 NEED 0 .. 99 (3), 2 THICK 1 .. 9 (2): of words on paper.");
        int[] first = {0, 3, 2};
        int[] least = {0, 0, 1};
        int[] most = {9, 99, 9};
        NeckKnots x = Due.with(0, 5);
        for (int what = 0; what < 3; what++) {
            Due.due("count(" + (12 + what) + ")", x.count(12 + what), first[what]);
            Due.due("terms() to the least", x.terms(what, least[what]), first[what]);
            Due.due("terms() to the most", x.terms(what, most[what]), least[what]);
            Due.due("count(" + (12 + what) + ")", x.count(12 + what), most[what]);
            int term = what;
            for (int bad : new int[] {least[what] - 1, most[what] + 1, FAR[0], FAR[1]}) {
                Due.refused(NeckKnots::new, "terms(" + what + ", " + bad + ")", y -> y.terms(term, bad), -1);
            }
        }
        Due.due("a knot's own thickness", x.of(0, 1), 5);
        Due.due("a knot's own thickness", x.asks(0, 0, 0), 7);
        x.terms(1, 0);
        Due.due("thickness of words", x.best(33, 3), 33);
        NeckKnots moods = Due.ruled("takes mood; bars if mood = 9");
        moods.knot(0, 1, 200);
        for (int mood : new int[] {0, 8, 9, 0}) {
            moods.terms(0, mood);
            Due.due("mood " + mood + " of a move", moods.asks(0, 0, 0), mood);
            Due.due("mood " + mood + " on paper", moods.ways(3, -1), mood == 9 ? 0 : 2);
        }
        for (int bad : new int[] {-1, 3, FAR[0], FAR[1]}) {
            Due.refused(NeckKnots::new, "terms(" + bad + ", 1)", y -> y.terms(bad, 1), -1);
        }
    }

    private static void refusals() {
        Due.sentence("I", "REFUSED by: -1 a number that can't be; -2 there is no such KNOT, LAW, IMAGE;"
                + " -3 it can't be by what stands; -5 no room; -6 a TEXT, a ROW that can't be.");
        Due.refused(NeckKnots::new, "a number that can't be", x -> x.boy(0), -1);
        Due.refused(NeckKnots::new, "no such knot", x -> x.draw(0), -2);
        Due.refused(NeckKnots::new, "no such law", x -> x.force(0), -2);
        Due.refused(NeckKnots::new, "no such image", x -> x.back(0), -2);
        Due.refused(() -> Due.with(0, 1), "what stands", x -> x.through(0), -3);
        Due.refused(TermsBoundsTest::eightKnots, "no room", x -> x.knot(0, 1, 1), -5);
        Due.refusedText(NeckKnots::new, "a text that can't be", x -> x.law(), -6);
        Due.refusedText(NeckKnots::new, "a row that can't be", x -> x.row(), -6);
    }

    private static NeckKnots sixLaws() {
        NeckKnots x = new NeckKnots();
        for (int i = 0; i < 6; i++) {
            Texts.law(x, "bars");
        }
        return x;
    }

    private static void orderOfRefusals() {
        Due.sentence("I", "The first of these in that order.");
        Due.refused(TermsBoundsTest::eightKnots, "knot(): -1 ahead of -5", x -> x.knot(0, 1, 0), -1);
        Due.refused(() -> {
            NeckKnots y = new NeckKnots();
            for (int b = 0; b < 12; b++) {
                y.boy(9);
                y.sight(0, 0);
            }
            return y;
        }, "boy(): -1 ahead of -5", x -> x.boy(0), -1);
        Due.refused(() -> {
            NeckKnots y = new NeckKnots();
            for (int k = 0; k < 12; k++) {
                y.sight(0, 0);
            }
            return y;
        }, "sight(): -1 ahead of -5", x -> x.sight(0, 3), -1);
        Due.refused(NeckKnots::new, "lay(): -1 ahead of -2", x -> x.lay(0, 3), -1);
        Due.refused(TermsBoundsTest::twelveMoves, "lay(): -1 ahead of -5", x -> x.lay(0, 3), -1);
        Due.refused(TermsBoundsTest::twelveMoves, "lay(): -2 ahead of -5", x -> x.lay(1, 0), -2);
        Due.refused(TermsBoundsTest::twelveMoves, "lay(): -3 ahead of -5", x -> x.lay(0, 1), -3);
        Due.refused(NeckKnots::new, "back(): -1 ahead of -2", x -> x.back(2), -1);
        Due.refusedText(TermsBoundsTest::sixLaws, "law(): -5 ahead of -6", x -> x.law(), -5);
    }

    // ---- II: texts ----

    private static String filled(String head, char with, String tail) {
        return head + String.valueOf(with).repeat(400 - head.length() - tail.length()) + tail;
    }

    private static void tape() {
        Due.sentence("II", "TEXTS are on a TAPE of at most 400 bytes.");
        Due.fault(true, filled("bars", ' ', ""), -1);
        Due.fault(true, filled("bars", ' ', "?"), 399);
        Due.fault(true, filled("", ' ', "bars"), -1);
        Due.fault(true, filled("takes 1 ", ' ', "+"), 400);
        Due.fault(true, filled("", ' ', "tak"), 397);
        Due.fault(true, filled("takes", ' ', "plac"), 396);
        Due.fault(true, filled("takes", ' ', "place"), -1);
        Due.fault(false, filled("mirror", ' ', "knot"), 396);
        Due.fault(false, filled("mirror", ' ', "many"), 400);
        Due.fault(false, filled("mirror 0 times", ' ', "9"), -1);
        Due.fault(false, filled("", ' ', "mirror 0"), -1);
        NeckKnots x = Due.ruled(filled("takes ", '0', "7"));
        x.knot(0, 1, 200);
        Due.due("the 400th byte", x.asks(0, 0, 0), 7);
        NeckKnots y = new NeckKnots();
        Texts.put(y, Texts.bytes(filled("bars", ' ', "")));
        Due.due("count(5)", y.count(5), 400);
        Due.due("a 401st byte", y.feed(0, 0, 0, 0, 0), -1);
        Due.due("law()", y.law(), 0);
    }

    private static boolean letter(char c) {
        return "abcdefghijklmnopqrstuvwxyz".indexOf(c) >= 0;
    }

    private static boolean digit(char c) {
        return "0123456789".indexOf(c) >= 0;
    }

    private static void tokens() {
        Due.sentence("II", "TOKENS: longest rows of letters a .. z, of digits, single other bytes, any blanks (32) between.");
        for (char c = 0; c < 256; c++) {
            Due.fault(true, "bars" + c, c == ' ' ? -1 : letter(c) ? 0 : c == ';' ? 5 : 4);
            boolean sign = "+-*/%;".indexOf(c) >= 0;
            Due.fault(true, "takes 1" + c, c == ' ' || digit(c) ? -1 : sign ? 8 : 7);
            Due.fault(true, c + "bars", c == ' ' ? -1 : 0);
            Due.fault(true, "takes " + c, digit(c) ? -1 : c == ' ' || c == '[' ? 7 : 6);
        }
        for (char c : new char[] {'?', '(', ';', 0, 255}) {
            Due.fault(true, String.valueOf(c).repeat(400), 0);
            Due.fault(false, String.valueOf(c).repeat(400), 0);
        }
        Due.fault(true, "ba rs", 0);
        Due.fault(true, "takes 1 0", 8);
        Due.fault(true, "takes1", -1);
        Due.fault(true, "takesat", 0);
        Due.fault(true, "takes at", -1);
        Due.fault(true, "bars if 1<>2", 10);
        Due.fault(true, "bars if 1==2", 10);
        Due.fault(true, "   takes   1   +   2   ", -1);
        Due.fault(true, "takes1+2if1=1and2=2or not1=1;bars", -1);
        Due.fault(false, "lay1on0times1if1=1;mirror0times2;draw0if many0>0", -1);
    }

    private static void clauses() {
        Due.sentence("II", "CLAUSE {\";\" CLAUSE}, 12 at most (FAULT at the 13th's first TOKEN).");
        String laws = "bars if 1=2;".repeat(11);
        Due.fault(true, laws + "bars", -1);
        Due.fault(true, laws + "bars;bars", laws.length() + 5);
        Due.fault(true, laws + "bars;   bars", laws.length() + 8);
        Due.fault(true, laws + "bars;", laws.length() + 5);
        Due.fault(true, laws + "bars; ", laws.length() + 6);
        Due.fault(true, "bars;bars bars", 10);
        Due.fault(true, ";", 0);
        Due.fault(true, "bars;", 5);
        Due.fault(true, "bars;;bars", 5);
        String orders = "mirror 0;".repeat(11);
        NeckKnots x = Due.with(0, 1, 0);
        Due.due("orders() of 12", Texts.orders(x, orders + "mirror 0"), 12);
        Due.due("orders() of 13", Texts.orders(x, orders + "mirror 0;mirror 0"), -6);
        Due.due("fault()", x.fault(), orders.length() + 9);
        Due.due("none was run", x.count(4), 13);
        NeckKnots y = Due.ruled("takes 3;".repeat(11) + "takes 4");
        y.knot(0, 1, 200);
        Due.due("the 12th clause", y.asks(0, 0, 0), 4);
    }

    private static void grammar() {
        Due.sentence("II", "TEST: BOTH {\"or\" BOTH}. BOTH: PLAIN {\"and\" PLAIN}.");
        Due.fault(true, "bars if", 7);
        Due.fault(true, "bars if or 1=1", 8);
        Due.fault(true, "bars if 1=1 or", 14);
        Due.fault(true, "bars if 1=1 or or 1=1", 15);
        Due.fault(true, "bars if and 1=1", 8);
        Due.fault(true, "bars if 1=1 and", 15);
        Due.fault(true, "bars if 1=1 and or 1=1", 16);
        Due.fault(true, "bars if 1=1 1=1", 12);
        Due.sentence("II", "PLAIN: \"not\" PLAIN | \"(\" TEST \")\" | SUM (\"<\" | \">\" | \"=\") SUM.");
        Due.fault(true, "bars if not", 11);
        Due.fault(true, "bars if not or", 12);
        Due.fault(true, "bars if " + "not ".repeat(96) + "1=1", -1);
        Due.fault(true, "bars if ()", 9);
        Due.fault(true, "bars if (1=1", 12);
        Due.fault(true, "bars if (1=1]", 12);
        Due.fault(true, "bars if 1=1)", 11);
        Due.fault(true, "bars if (1)=1", 10);
        Due.fault(true, "bars if 1", 9);
        Due.fault(true, "bars if 1=", 10);
        Due.fault(true, "bars if =1", 8);
        Due.fault(true, "bars if 1=1=1", 11);
        Due.fault(true, "bars if 1!1", 9);
        Due.sentence("II", "SUM: TERM {(\"+\" | \"-\") TERM}. TERM: PART {(\"*\" | \"/\" | \"%\") PART}.");
        Due.fault(true, "takes", 5);
        Due.fault(true, "takes +1", 6);
        Due.fault(true, "takes -1", 6);
        Due.fault(true, "takes 1+", 8);
        Due.fault(true, "takes 1-", 8);
        Due.fault(true, "takes 1*", 8);
        Due.fault(true, "takes 1/", 8);
        Due.fault(true, "takes 1%", 8);
        Due.fault(true, "takes 1+*1", 8);
        Due.fault(true, "takes 1*-1", 8);
        Due.fault(true, "takes []", 7);
        Due.fault(true, "takes [1", 8);
        Due.fault(true, "takes [1)", 8);
        Due.fault(true, "takes 1]", 7);
        Due.fault(true, "takes (1)", 6);
        Due.fault(true, "bars if [1=1]", 10);
    }

    private static void numbers() {
        Due.sentence("II", "PART: NUMBER (to 1,000) | \"[\" SUM \"]\" | a word, as told.");
        Due.fault(true, "takes 0", -1);
        Due.fault(true, "takes 1000", -1);
        Due.fault(true, "takes 1001", 6);
        Due.fault(true, "takes 1+1001", 8);
        Due.fault(false, "mirror 0*1000", -1);
        Due.fault(false, "mirror 0*1001", 9);
        for (String wrapped : new String[] {"2147483648", "4294967296", "4294967297", "18446744073709551616",
            "18446744073709551617", "65537", "10000", "9".repeat(390)}) {
            Due.fault(true, "takes " + wrapped, 6);
        }
        NeckKnots x = Due.ruled("takes 1000/50-0");
        x.knot(0, 1, 200);
        Due.due("1000 / 50 - 0", x.asks(0, 0, 0), 20);
        Due.fault(true, "takes placed", 6);
        Due.fault(true, "takes plac", 6);
        List<String> ofLaws = List.of("place", "side", "at", "before", "thick", "mood");
        List<String> ofOrders = List.of("knots", "done", "latest", "many", "end", "cloth");
        for (String word : ("takes grips bars if or and not place side at before thick mood lay on through draw mirror times"
                + " knots done latest many end cloth").split(" ")) {
            Due.fault(true, "takes " + word + " 0", ofLaws.contains(word) ? 7 + word.length() : 6);
            Due.fault(true, "takes " + word, ofLaws.contains(word) ? -1 : 6);
            boolean ofKnot = ofOrders.indexOf(word) > 2;
            Due.fault(false, "mirror " + word + " 0", ofKnot ? -1 : ofOrders.contains(word) ? 8 + word.length() : 7);
            Due.fault(false, "mirror " + word, ofKnot ? 7 + word.length() : ofOrders.contains(word) ? -1 : 7);
        }
    }

    private static void parts() {
        Due.sentence("II", "50 PARTS that are NUMBERS and words (FAULT at the 51st)");
        String fifty = "takes 1" + "+at".repeat(49);
        Due.fault(true, fifty, -1);
        Due.fault(true, fifty + "+1", fifty.length() + 1);
        Due.fault(true, fifty + "+  at", fifty.length() + 3);
        Due.fault(true, fifty + "+[[1]]", fifty.length() + 3);
        Due.fault(true, fifty + "+1001", fifty.length() + 1);
        Due.fault(true, fifty + "+", fifty.length() + 1);
        Due.fault(true, fifty + ";bars;bars if  1", fifty.length() + 15);
        Due.fault(true, fifty + ";bars;bars", -1);
        String tests = "bars if 1=1" + " or 1=1".repeat(24);
        Due.fault(true, tests, -1);
        Due.fault(true, tests + " or not 1=1", tests.length() + 8);
        Due.fault(true, tests + ";takes 1", tests.length() + 7);
        String bracketed = "takes [1]" + "+[1]".repeat(49);
        Due.fault(true, bracketed, -1);
        Due.fault(true, bracketed + "+1", bracketed.length() + 1);
        NeckKnots x = Due.ruled("grips 0" + "+0".repeat(48) + "+5");
        x.knot(0, 1, 200);
        Due.due("all of 50", x.asks(0, 0, 1), 5);
        for (int i = 0; i < 5; i++) {
            Due.rule(x, "grips 0" + "+0".repeat(48) + "+" + i);
            Due.due("each text has 50 of its own", x.asks(0, 0, 1), i);
        }
        Due.sentence("II", "K, TIMES aside, NUMBERS and words count as PARTS.");
        String orders = "mirror 0" + "+0*many 7".repeat(24) + "*end 0";
        Due.fault(false, orders, -1);
        Due.fault(false, orders + " times 20", -1);
        Due.fault(false, orders + " times 1;mirror 0", orders.length() + 16);
        Due.fault(false, orders + ";mirror cloth 0", orders.length() + 8);
        Due.fault(false, orders + " if done = 0", orders.length() + 4);
        String behindTimes = "mirror 0 times 2;mirror 0" + "+0".repeat(48);
        Due.fault(false, behindTimes, -1);
        Due.fault(false, behindTimes + "+0", behindTimes.length() + 1);
        String behindKnots = "mirror 0*many 0*end 1*cloth 2;mirror 0" + "+0".repeat(45);
        Due.fault(false, behindKnots, -1);
        Due.fault(false, behindKnots + "+0", behindKnots.length() + 1);
        String twice = "lay 0 on 0;".repeat(10) + "mirror 0" + "+0".repeat(28);
        Due.fault(false, twice + "*1", -1);
        Due.fault(false, twice + "*1*1", twice.length() + 3);
    }

    private static void brackets() {
        Due.sentence("II", "8 brackets of both kinds within one another (FAULT at the 9th) at most.");
        String eight = "[[[[[[[[7]]]]]]]]";
        NeckKnots x = Due.ruled("takes " + eight + "+" + eight);
        x.knot(0, 1, 200);
        Due.due("8 and 8 more", x.asks(0, 0, 0), 14);
        Due.fault(true, "takes [" + eight + "]", 14);
        Due.fault(true, "takes [ [ [ [ [ [ [ [  [1", 23);
        Due.fault(true, "takes " + eight + ";takes " + eight, -1);
        Due.fault(true, "bars if ((((((((1=1))))))))", -1);
        Due.fault(true, "bars if (((((((((1=1)))))))))", 16);
        Due.fault(true, "bars if ((((1=[[[[1]]]]))))", -1);
        Due.fault(true, "bars if ((((1=[[[[[1]]]]]))))", 18);
        Due.fault(true, "bars if ((((((((1=[1]))))))))", 18);
        Due.fault(true, "bars if ((((((((1))))))))", 17);
        Due.fault(true, "bars if (((((((1=1 or [1]=1)))))))", -1);
        Due.fault(true, "bars if (((((((1=1 or [[1]]=1)))))))", 23);
        Due.fault(true, "bars if not(not(not(not(not(not(not(not(1=1))))))))", -1);
        Due.fault(true, "bars if not(not(not(not(not(not(not(not(not(1=1)))))))))", 43);
        Due.fault(false, "mirror " + eight.replace('7', '0'), -1);
        Due.fault(false, "mirror [" + eight + "]", 15);
        Due.fault(false, "lay " + eight + " on " + eight, -1);
        Due.fault(false, "lay " + eight + " on [" + eight + "]", 33);
        Due.fault(false, "mirror 0 if ((((((((0=0))))))))", -1);
    }

    private static void faults() {
        Due.sentence("II", "FAULT: the first TOKEN that can't go on there (the end's: the TEXT's length).");
        Due.fault(true, "takes", 5);
        Due.fault(true, "takes   ", 8);
        Due.fault(true, "   takes 1 if   ", 16);
        Due.fault(true, "", 0);
        Due.fault(true, " ", 1);
        Due.fault(true, "x takes 1", 0);
        Due.fault(true, "takes 1001 1001 +", 6);
        Due.fault(true, "  ?", 2);
        Due.fault(true, "bars 1;x", 5);
    }

    private static void clauseForms() {
        Due.sentence("II", "CLAUSE: ((\"takes\" | \"grips\") SUM | \"bars\") [\"if\" TEST].");
        Due.fault(true, "takes 1 if 1=1", -1);
        Due.fault(true, "grips 1", -1);
        Due.fault(true, "bars", -1);
        Due.fault(true, "grips", 5);
        Due.fault(true, "grips if 1=1", 6);
        Due.fault(true, "bars 1", 5);
        Due.fault(true, "takes 1 if 1=1 if 1=1", 15);
        Due.fault(true, "if 1=1", 0);
        Due.fault(true, "1", 0);
        Due.fault(true, "takes 1 times 1", 8);
        for (String other : new String[] {"lay 0 on 0", "through 0", "draw 0", "mirror 0", "on 0", "place", "times 1", "or"}) {
            Due.fault(true, other, 0);
        }
        Due.sentence("II", "CLAUSE: (\"lay\" SUM \"on\" SUM | \"through\" SUM | \"draw\" SUM | \"mirror\" SUM)"
                + " [\"times\" TIMES] [\"if\" TEST]. (a PLACE, a KNOT; a KNOT.)");
        Due.fault(false, "lay 0 on 0", -1);
        Due.fault(false, "lay 0 on 0 times 1 if 1=1", -1);
        Due.fault(false, "lay 0 on", 8);
        Due.fault(false, "lay 0   ", 8);
        Due.fault(false, "lay 0;draw 0", 5);
        Due.fault(false, "lay on 0", 4);
        Due.fault(false, "lay 0 0", 6);
        Due.fault(false, "lay 0 on 0 on 0", 11);
        Due.fault(false, "through 0 on 0", 10);
        Due.fault(false, "draw 0 on 0", 7);
        Due.fault(false, "mirror 0 on 0", 9);
        Due.fault(false, "through", 7);
        Due.fault(false, "draw", 4);
        Due.fault(false, "mirror", 6);
        Due.fault(false, "mirror 0 times 2 times 2", 17);
        Due.fault(false, "mirror 0 if 1=1 times 2", 16);
        Due.fault(false, "mirror 0 if 1=1 if 1=1", 16);
        for (String other : new String[] {"takes 1", "grips 1", "bars", "on 0", "knots", "times 1", "if 1=1", "or", "0"}) {
            Due.fault(false, other, 0);
        }
        NeckKnots x = Due.with(0, 1);
        x.knot(0, 1, 200);
        Due.due("a place, a knot", Texts.orders(x, "lay 0 on 1"), 1);
        Due.due("of(1, 3)", x.of(1, 3), 1);
        Due.due("of(1, 12)", x.of(1, 12), 0);
    }

    // ---- II: what texts mean ----

    /** What a move takes by a sum; 20 if that is broken. */
    private static int takes(String sum) {
        NeckKnots x = Due.ruled("takes 20;takes " + sum);
        x.knot(0, 1, 200);
        return x.asks(0, 0, 0);
    }

    private static boolean isSo(String test) {
        NeckKnots x = Due.ruled("bars if " + test);
        x.knot(0, 1, 200);
        return x.asks(0, 0, 2) == 1;
    }

    private static void so(String test) {
        Due.due(test, isSo(test) ? 1 : 0, 1);
        Due.due("not (" + test + ")", isSo("not (" + test + ")") ? 1 : 0, 0);
    }

    private static void notSo(String test) {
        Due.due(test, isSo(test) ? 1 : 0, 0);
        Due.due("not (" + test + ")", isSo("not (" + test + ")") ? 1 : 0, 1);
    }

    private static void broken(String test) {
        Due.due(test, isSo(test) ? 1 : 0, 0);
        Due.due("not (" + test + ")", isSo("not (" + test + ")") ? 1 : 0, 0);
    }

    private static void comparisons() {
        Due.sentence("II", "PLAIN: \"not\" PLAIN | \"(\" TEST \")\" | SUM (\"<\" | \">\" | \"=\") SUM.");
        so("1<2");
        notSo("2<2");
        notSo("3<2");
        so("2>1");
        notSo("2>2");
        notSo("2>3");
        so("2=2");
        notSo("1=2");
        notSo("3=2");
        so("0-1000*1000*1000<1000*1000*1000");
        notSo("0-1000*1000*1000>1000*1000*1000");
        notSo("0-1000*1000*1000=1000*1000*1000");
        so("not (not 1=1)");
        notSo("not (not 1=2)");
        so("not (not (not 1=2))");
        so("not not 1=1 and not 1=2");
    }

    private static void far() {
        Due.sentence("II", "Beyond 1,000,000,000 either way");
        String million = "1000*1000";
        Due.due("1,000,000,000", takes("[" + million + "*1000]*0+5"), 5);
        Due.due("1,000,000,001", takes("[" + million + "*1000+1]*0+5"), 20);
        Due.due("-1,000,000,000", takes("[0-" + million + "*1000]*0+5"), 5);
        Due.due("-1,000,000,001", takes("[0-" + million + "*1000-1]*0+5"), 20);
        Due.due("1,001,000,000 by *", takes("[[1000*1000+1000]*1000]*0+5"), 20);
        Due.due("2 to the power of 32", takes("[256*256]*[256*256]"), 20);
        Due.due("2 to the power of 64", takes("[[[256*256]*[256*256]]*[256*256]]*[256*256]"), 20);
        Due.due("2 to the power of 31", takes("[256*256]*[256*128]"), 20);
        Due.due("10 to the power of 18", takes("[" + million + "*1000]*[" + million + "*1000]*0+5"), 20);
        so(million + "*1000=" + million + "*1000");
        broken(million + "*1000+1>0");
        broken("1=" + million + "*1000*2");
        so("0-" + million + "*1000<0");
        broken("0-" + million + "*1000-1<0");
        NeckKnots x = Due.with(0, 1, 0);
        Due.due("a broken sum of an order", Texts.orders(x, "mirror " + million + "*1000*2"), -3);
        Due.due("a broken test of an order", Texts.orders(x, "mirror 0 if " + million + "*1000*2>0;mirror 0"), 1);
        Due.due("a far sum of an order that is not broken", Texts.orders(x, "mirror [" + million + "*1000]*0"), 1);
        Due.due("a far knot", Texts.orders(x, "mirror " + million + "*1000"), -3);
        Due.due("a far place", Texts.orders(x, "lay " + million + "*1000 on 0"), -3);
    }

    private static void division() {
        Due.sentence("II", "or divided by 0 (/ cut towards 0, % what is left then), a SUM, a TEST is BROKEN");
        Due.due("1/0", takes("1/0"), 20);
        Due.due("0/0", takes("0/0"), 20);
        Due.due("1%0", takes("1%0"), 20);
        Due.due("0%0", takes("0%0"), 20);
        Due.due("5+0*[1/[3-3]]", takes("5+0*[1/[3-3]]"), 20);
        Due.due("7/2", takes("10+7/2"), 13);
        Due.due("-7/2", takes("10+[0-7]/2"), 7);
        Due.due("7/-2", takes("10+7/[0-2]"), 7);
        Due.due("-7/-2", takes("10+[0-7]/[0-2]"), 13);
        Due.due("-1/2", takes("10+[0-1]/2"), 10);
        Due.due("7%2", takes("10+7%2"), 11);
        Due.due("-7%2", takes("10+[0-7]%2"), 9);
        Due.due("7%-2", takes("10+7%[0-2]"), 11);
        Due.due("-7%-2", takes("10+[0-7]%[0-2]"), 9);
        Due.due("-4%2", takes("10+[0-4]%2"), 10);
        Due.due("-1000000000/-1", takes("[[0-1000*1000*1000]/[0-1]]/1000/1000/100"), 10);
        broken("1/0=1");
        broken("1=1/0");
        broken("1%0<1");
        broken("1/0=1/0");
    }

    private static void shortCuts() {
        Due.sentence("II", "(\"or\", \"and\" ask what stands behind only if it can still matter)");
        so("1=1 or 1/0=1");
        broken("1=2 or 1/0=1");
        notSo("1=2 and 1/0=1");
        broken("1=1 and 1/0=1");
        broken("1/0=1 or 1=1");
        broken("1/0=1 and 1=2");
        so("1=2 and 1/0=1 or 1=1");
        so("1=1 or 1=1 and 1/0=1");
        so("1=2 or 1=1 or 1/0=1");
        broken("1=2 or 1=2 or 1/0=1");
        notSo("1=1 and 1=2 and 1/0=1");
        broken("1=1 and 1=1 and 1/0=1");
        broken("1=1 and 1/0=1 or 1=1");
        so("(1=1 or 1/0=1) and 2=2");
        notSo("(1=2 and 1/0=1) or 2=1");
        so("not (1=2 and 1/0=1)");
        so("1=2 and 1/0=1 and 1/0=1 or 1=1 or 1/0=1 or 1/0=1");
    }

    private static void laws() {
        Due.sentence("II", "LAWS, 6 at most; one is in FORCE (NONE at first: no CLAUSE)");
        NeckKnots x = Due.with(0, 1);
        Due.due("count(11)", x.count(11), -1);
        for (int i = 0; i < 6; i++) {
            Due.due("law()", Texts.law(x, "takes " + (10 + i)), i);
            Due.due("a law that is not in force", x.asks(0, 0, 0), 3);
        }
        Due.due("a 7th law()", Texts.law(x, "takes 1"), -5);
        Due.due("count(3)", x.count(3), 6);
        for (int i = 0; i < 6; i++) {
            Due.due("force()", x.force(i), i - 1);
            Due.due("law " + i, x.asks(0, 0, 0), 10 + i);
        }
        Due.refusedText(TermsBoundsTest::sixLaws, "a 7th law()", y -> Texts.law(y, "bars"), -5);
    }

    private static void words() {
        Due.sentence("II", "at: which MOVE it is (0 on), before: the PLACE of the MOVE ahead (-1: none)");
        NeckKnots x = Due.ruled("takes at; grips before");
        x.knot(0, 1, 200);
        int ahead = -1;
        for (int at = 0; at < 12; at++) {
            int place = at % 3;
            Due.due("at of move " + at, x.asks(0, place, 0), at);
            Due.due("before of move " + at, x.asks(0, place, 1), ahead);
            x.lay(0, place);
            ahead = place;
        }
        Due.due("at of all together", x.of(0, 5), 66);
        Due.due("before of all together: -1, 0, 1, 2, 0, 1, 2, 0, 1, 2, 0, 1", x.of(0, 6), 9);
        NeckKnots y = Due.ruled("bars if at = 11");
        Due.due("words of 12 have a move 11", y.ways(12, -1), 0);
        Due.due("words of 11 have none", y.ways(11, -1), 512);
        Due.rule(y, "bars if at = 12");
        Due.due("there is no move 12", y.ways(12, -1), 1024);
        Due.rule(y, "bars if before = 0-1");
        Due.due("all words have a first move", y.ways(5, -1), 0);
        Due.rule(y, "bars if before = 0-1 and at > 0");
        Due.due("none has another one", y.ways(5, -1), 8);
    }

    /** What a word of laws tells of move at, by the document's own words. */
    private static int told(String word, int start, int[] places, int at) {
        switch (word) {
            case "place": return places[at];
            case "side": return at % 2 == 0 ? start : 1 - start;
            case "at": return at;
            case "before": return at == 0 ? -1 : places[at - 1];
            case "thick": return 6;
            default: return 4;
        }
    }

    private static void lawWords() {
        Due.sentence("II", "Words: \"place\" | \"side\" | \"at\" | \"before\" | \"thick\" | \"mood\"."
                + " All are asked of a MOVE: its PLACE, its SIDE");
        int[] places = {1, 2, 0, 1, 0, 2};
        for (String word : new String[] {"place", "side", "at", "before", "thick", "mood"}) {
            for (int start = 0; start <= 1; start++) {
                NeckKnots x = Due.ruled("takes 3 + " + word + ";grips " + word + " * 2 - 3;bars if " + word + " = 1");
                x.terms(0, 4);
                x.terms(2, 9);
                x.knot(start, 6, 200);
                int takes = 0;
                int grip = 0;
                for (int at = 0; at < places.length; at++) {
                    int value = told(word, start, places, at);
                    Due.due("takes 3 + " + word + " of move " + at, x.asks(0, places[at], 0), 3 + value);
                    Due.due("grips " + word + " * 2 - 3 of move " + at, x.asks(0, places[at], 1), Math.min(2 * value - 3, 9));
                    Due.due("bars if " + word + " = 1 of move " + at, x.asks(0, places[at], 2), value == 1 ? 1 : 0);
                    takes += 3 + value;
                    grip += Math.min(2 * value - 3, 9);
                    x.force(-1);
                    x.lay(0, places[at]);
                    x.force(0);
                    Due.due("takes 3 + " + word + " of all", x.of(0, 5), takes);
                    Due.due("grips " + word + " * 2 - 3 of all", x.of(0, 6), grip);
                }
            }
        }
        Due.sentence("II", "thick: of the KNOT.");
        NeckKnots y = Due.ruled("takes thick * 2;grips thick - 5");
        for (int k = 0; k < 8; k++) {
            y.terms(2, 9 - k);
            y.knot(0, 1 + k, 200);
        }
        for (int k = 0; k < 8; k++) {
            Due.due("takes thick * 2 of knot " + k, y.asks(k, 0, 0), 2 + 2 * k);
            y.lay(k, 0);
            Due.due("takes thick * 2 of knot " + k, y.of(k, 5), 2 + 2 * k);
            Due.due("grips thick - 5 of knot " + k, y.of(k, 6), k - 4);
        }
    }

    private static int[] asked(String law, int thick) {
        NeckKnots x = Due.ruled(law);
        x.knot(0, thick, 200);
        return new int[] {x.asks(0, 0, 0), x.asks(0, 0, 1), x.asks(0, 0, 2)};
    }

    private static void holding() {
        Due.sentence("II", "A CLAUSE HOLDS, if its \"if\" (if it has one) is so, and neither that nor its SUM is BROKEN.");
        Due.due("without \"if\"", asked("takes 5", 1)[0], 5);
        Due.due("so", asked("takes 5 if 1=1", 1)[0], 5);
        Due.due("not so", asked("takes 5 if 1=2", 1)[0], 3);
        Due.due("\"if\" is broken", asked("takes 5 if 1/0=1", 1)[0], 3);
        Due.due("the sum is broken", asked("takes 1/0", 1)[0], 3);
        Due.due("the sum is broken, \"if\" is so", asked("takes 1/0 if 1=1", 1)[0], 3);
        Due.due("the sum is broken, \"if\" is not so", asked("takes 5;takes 1/0 if 1=2", 1)[0], 5);
        Due.due("grips: \"if\" is broken", asked("grips 5 if 1/0=1", 1)[1], 1);
        Due.due("grips: the sum is broken", asked("grips 5%0", 1)[1], 1);
        Due.due("bars: \"if\" is broken", asked("bars if 1/0=1", 1)[2], 0);
        Due.due("the clause behind a broken one", asked("bars if 1/0=1;grips 1/0;takes 5", 1)[0], 5);
    }

    private static void taking() {
        Due.sentence("II", "A MOVE TAKES what the last \"takes\" that HOLDS tells, 0 .. 20 (else the nearest), 2 and THICK without");
        String[] sums = {"0", "20", "21", "0-1", "19", "1", "1000", "0-1000", "1000*1000*1000", "0-1000*1000*1000"};
        int[] due = {0, 20, 20, 0, 19, 1, 20, 0, 20, 0};
        for (int i = 0; i < sums.length; i++) {
            Due.due("takes " + sums[i], asked("takes " + sums[i], 1)[0], due[i]);
        }
        Due.due("the last", asked("takes 3;takes 4", 1)[0], 4);
        Due.due("the last that holds", asked("takes 3;takes 4;takes 5 if 1=2;takes 6/0", 1)[0], 4);
        Due.due("one that is not the nearest is the last", asked("takes 5;takes 0-9", 1)[0], 0);
        for (int thick : new int[] {1, 9}) {
            NeckKnots x = Due.with(0, thick);
            Due.due("without a law", x.asks(0, 0, 0), 2 + thick);
            Due.due("without \"takes\"", asked("grips 5", thick)[0], 2 + thick);
            Due.due("without one that holds", asked("takes 5 if 1=2", thick)[0], 2 + thick);
        }
    }

    private static void gripping() {
        Due.sentence("II", "it GRIPS -9 .. 9, 1 without");
        String[] sums = {"0", "9", "10", "0-9", "0-10", "8", "0-8", "1000*1000*1000", "0-1000*1000*1000"};
        int[] due = {0, 9, 9, -9, -9, 8, -8, 9, -9};
        for (int i = 0; i < sums.length; i++) {
            Due.due("grips " + sums[i], asked("grips " + sums[i], 1)[1], due[i]);
        }
        Due.due("the last that holds", asked("grips 3;grips 4;grips 5 if 1=2;grips 6/0", 1)[1], 4);
        Due.due("without a law", Due.with(0, 9).asks(0, 0, 1), 1);
        Due.due("without \"grips\"", asked("takes 5", 9)[1], 1);
        Due.due("without one that holds", asked("grips 5 if 1=2", 1)[1], 1);
        Due.sentence("II", "it is BARRED, if \"bars\" HOLDS.");
        Due.due("without a law", Due.with(0, 9).asks(0, 0, 2), 0);
        Due.due("without \"bars\"", asked("takes 5;grips 5", 1)[2], 0);
        Due.due("bars", asked("bars", 1)[2], 1);
        Due.due("one that holds, one that does not", asked("bars if 1=1;bars if 1=2", 1)[2], 1);
        Due.due("one that does not, one that holds", asked("bars if 1=2;bars if 1=1", 1)[2], 1);
        Due.due("none that holds", asked("bars if 1=2;bars if 2=1", 1)[2], 0);
    }

    // ---- II: orders ----

    private static void times() {
        Due.sentence("II", "TIMES: a NUMBER 1 .. 20.");
        Due.fault(false, "mirror 0 times 1", -1);
        Due.fault(false, "mirror 0 times 20", -1);
        for (String bad : new String[] {"0", "21", "1000", "1001", "4294967297", "18446744073709551617", "done", "[1]", "-1", "if"}) {
            Due.fault(false, "mirror 0 times " + bad, 15);
        }
        Due.fault(false, "mirror 0 times", 14);
        Due.fault(false, "mirror 0 times 1+1", 16);
        Due.sentence("II", "each as often as TIMES tell (once without)");
        Due.due("without", Texts.orders(Due.with(0, 1), "mirror 0"), 1);
        Due.due("times 1", Texts.orders(Due.with(0, 1), "mirror 0 times 1"), 1);
        Due.due("times 20", Texts.orders(Due.with(0, 1), "mirror 0 times 20"), 20);
        Due.due("12 clauses of times 20", Texts.orders(Due.with(0, 1), "mirror 0 times 20;".repeat(11) + "mirror 0 times 20"), 240);
        Due.sentence("II", "(K: a NUMBER 0 .. 7)");
        for (String word : new String[] {"many", "end", "cloth"}) {
            int at = 8 + word.length();
            Due.fault(false, "mirror " + word + " 0*0", -1);
            Due.fault(false, "mirror " + word + " 7*0", -1);
            for (String bad : new String[] {"8", "1000", "1001", "4294967296", "18446744073709551616", "knots", "[0]", "-1"}) {
                Due.fault(false, "mirror " + word + " " + bad, at);
            }
            Due.fault(false, "mirror " + word, at - 1);
        }
    }

    private static void asking() {
        Due.sentence("II", "each time its \"if\" is asked (not run, if it is not so or BROKEN), then its SUMS from the left.");
        Due.due("so each time", Texts.orders(Due.with(0, 1), "mirror 0 times 5 if done < 9"), 5);
        Due.due("so at first", Texts.orders(Due.with(0, 1), "mirror 0 times 5 if done < 3"), 3);
        Due.due("never so", Texts.orders(Due.with(0, 1), "mirror 0 times 5 if done > 0"), 0);
        Due.due("broken at first", Texts.orders(Due.with(0, 1), "mirror 0 times 5 if 1/done = 1"), 0);
        Due.due("broken later", Texts.orders(Due.with(0, 1), "mirror 0 times 5 if not 1/[done-2] = 9"), 2);
        NeckKnots x = Due.with(0, 1);
        Due.due("sums of what is not run", Texts.orders(x, "mirror 1/0 if 1=2;lay 1/0 on 9 if 1/0=1;draw 9 if 1=2"), 0);
        Due.due("stopped()", x.stopped(), -1);
        Due.due("status()", x.status(), 0);
        Due.due("sums are asked each time", Texts.orders(x, "lay done%2 on 0 times 12"), 12);
        Due.due("the 12th", x.of(0, 23), 1);
    }

    /** A word of orders tells so much, no more and no less: what can't be is run only if it does, and leaves all. */
    private static void tells(NeckKnots x, String word, int value) {
        String sum = value < 0 ? "0-" + -value : "" + value;
        Due.due(word + " = " + value, Texts.orders(x, "draw 9 if " + word + " = " + sum), -3);
        Due.due(word + " < " + value, Texts.orders(x, "draw 9 if " + word + " < " + sum), 0);
        Due.due(word + " > " + value, Texts.orders(x, "draw 9 if " + word + " > " + sum), 0);
    }

    private static void clauseByClause() {
        Due.sentence("II", "Words: \"knots\" | \"done\" | \"latest\" | \"many\" K | \"end\" K | \"cloth\" K");
        NeckKnots x = Due.with(0, 1);
        for (int knots = 1; knots <= 8; knots++) {
            tells(x, "knots", knots);
            x.knot(0, 1, 200);
        }
        tells(x, "done", 0);
        tells(x, "latest", -1);
        for (int k = 0; k < 8; k++) {
            NeckKnots y = new NeckKnots();
            for (int i = 0; i < 8; i++) {
                y.knot(0, 1, 200 - i);
                Due.lay(y, i, i % 3);
            }
            Due.lay(y, k, (k + 1) % 3, k % 3, (k + 2) % 3);
            tells(y, "many " + k, 4);
            tells(y, "many" + (7 - k), 1);
            tells(y, "cloth" + k, 200 - k - 12);
            tells(y, "cloth " + (7 - k), 200 - (7 - k) - 3);
            tells(y, "end " + k, (k + 2) % 3);
            tells(y, "end" + (7 - k), (7 - k) % 3);
        }
        Due.sentence("II", "Run CLAUSE by CLAUSE,");
        NeckKnots y = Due.with(0, 1);
        Due.due("the last first", Texts.orders(y, "through 0;lay 2 on 0;lay 1 on 0;lay 0 on 0"), -3);
        Due.due("stopped()", y.stopped(), 0);
        Due.due("in their order", Texts.orders(y, "lay 0 on 0;lay 1 on 0;lay 2 on 0;through 0"), 4);
        int[] tied = {0, 1, 2};
        for (int at = 0; at < 3; at++) {
            Due.due("place of move " + at, y.of(0, 12 + at), tied[at]);
        }
        NeckKnots z = Due.with(0, 1);
        Due.due("all times of one ahead of the next", Texts.orders(z, "lay done % 2 on 0 times 4;draw 0;lay 2 on 0"), 6);
        int[] laid = {0, 1, 0, 2};
        for (int at = 0; at < 4; at++) {
            Due.due("place of move " + at, z.of(0, 12 + at), laid[at]);
        }
        NeckKnots w = Due.with(0, 1);
        Due.due("each sees what those ahead of it did", Texts.orders(w,
                "mirror 0 times 3;lay 0 on 0 if done = 3;lay 1 on 0 if latest = 1;draw 0 if many 0 = 2;lay 2 on 0 if end 0 = 0"), 7);
        Due.due("its moves", w.of(0, 3) * 100 + w.of(0, 12) * 10 + w.of(0, 13), 202);
        Due.due("the first that can't be", Texts.orders(w, "mirror 0;draw 0 times 3;through 9"), -3);
        Due.due("stopped()", w.stopped(), 1);
    }

    private static void orderWords() {
        Due.sentence("II", "done: how many were run in this TEXT, latest: what the latest of them told (-1: none)");
        NeckKnots x = Due.with(0, 1);
        Due.due("done of none", Texts.orders(x, "mirror 0 if done = 0"), 1);
        Due.due("done begins anew", Texts.orders(x, "mirror 0 if done = 0"), 1);
        Due.due("latest of none", Texts.orders(x, "mirror 0 if latest = 0-1"), 1);
        Due.due("latest begins anew", Texts.orders(x, "mirror 0 if latest = 0-1"), 1);
        Due.due("what is not run counts for neither", Texts.orders(x, "mirror 9 if 1=2;lay 0 on 0 if done = 0 and latest = 0-1"), 1);
        Due.due("lay() told 2", Texts.orders(x, "lay 1 on 0;mirror 0 if latest = 2 and done = 1"), 2);
        Due.due("draw() told 1, 0", Texts.orders(x, "draw 0;mirror 0 if latest = 1;draw 0;mirror 0 if latest = 0 and done = 3"), 4);
        Due.sentence("II", "many: how many MOVES (-1: no such KNOT), end: the PLACE of the last one (-1: none),"
                + " cloth: what its MOVES leave of its CLOTH (-1: no such KNOT).");
        NeckKnots y = Due.with(0, 1);
        Due.due("without moves", Texts.orders(y, "mirror 0 if many 0 = 0 and end 0 = 0-1 and cloth 0 = 200"), 1);
        Due.due("no such knot", Texts.orders(y, "mirror 0 if many 1 = 0-1 and end 1 = 0-1 and cloth 1 = 0-1"), 1);
        Due.due("no such knot", Texts.orders(y, "mirror 0 if many 7 = 0-1 and end 7 = 0-1 and cloth 7 = 0-1"), 1);
        Due.lay(y, 0, 2, 0, 1);
        Due.due("with moves", Texts.orders(y, "mirror 0 if many 0 = 3 and end 0 = 1 and cloth 0 = 191"), 1);
        NeckKnots z = new NeckKnots();
        z.knot(0, 1, 3);
        z.lay(0, 0);
        Due.due("all the cloth", Texts.orders(z, "mirror 0 if cloth 0 = 0"), 1);
        NeckKnots w = eightKnots();
        w.lay(7, 2);
        Due.due("knot 7", Texts.orders(w, "mirror 7 if many 7 = 1 and end 7 = 2 and cloth 7 = 197 and knots = 8"), 1);
    }

    /** A knot of 12 moves, one without, one that is through, with cloth for nothing more; 16 to undo. */
    private static NeckKnots laden() {
        NeckKnots x = twelveMoves();
        x.knot(0, 1, 9);
        Due.tied(x, 0, 1, 0, 1, 2);
        Texts.orders(x, "mirror 2 times 3;draw 2;through 2;draw 0;lay 2 on 0;mirror 2 times 9");
        return x;
    }

    private static void stopping() {
        Due.sentence("II", "One that can't be (a BROKEN SUM, as lay(), through(), draw(), mirror() are REFUSED) ends it:"
                + " all is as it was ahead of it.");
        String[] bad = {"mirror 1/0", "lay 1/0 on 1", "lay 0 on 1%0", "lay 3 on 1", "lay 0-1 on 1", "lay 0 on 3", "lay 0 on 0-1",
            "lay 1 on 0", "lay 2 on 0", "lay 0 on 2", "lay done%2 on 1 times 4", "through 3", "through 0", "through 1", "through 2",
            "draw 3", "draw 1", "draw 2 times 5", "mirror 3", "mirror 0-1", "mirror 1000*1000*1000+1"};
        for (String b : bad) {
            Due.refusedText(TermsBoundsTest::laden, b, x -> Texts.orders(x, b), -3);
            Due.refusedText(TermsBoundsTest::laden, "much, then " + b, x -> Texts.orders(x,
                    "lay 0 on 1;draw 1;mirror 0 times 20;draw 2 times 4;lay 0 on 2;lay 1 on 2;lay 2 on 2;through 2;" + b), -3);
        }
        NeckKnots x = laden();
        Texts.orders(x, "mirror 1 times 20;draw 1");
        Due.due("count(4)", x.count(4), 16);
        int[] kinds = {3, 3, 3, 3, 3, 3, 3, 3, 3, 0, 2, 1, 2, 3, 3, 3};
        for (int kind : kinds) {
            Due.due("undo() as ahead of it", x.undo(), kind);
        }
        Due.due("no more to undo", x.undo(), -3);
        undoneBehindStop();
        NeckKnots y = Due.with(0, 1);
        Due.due("the 14th", Texts.orders(y, "mirror 0;lay done%2 on 0 times 12;lay 0 on 0"), -3);
        Due.due("what comes behind is not run", Texts.orders(y, "draw 0;mirror 0"), -3);
        Due.due("count(4)", y.count(4), 0);
    }

    /** What was to be undone is so again: which it was, of which knot, to which place. */
    private static void undoneBehindStop() {
        NeckKnots x = Due.with(0, 1);
        x.knot(0, 1, 200);
        x.knot(0, 1, 200);
        Due.lay(x, 0, 0, 1, 2, 1);
        Due.lay(x, 1, 2, 0, 1, 0);
        for (int i = 0; i < 4; i++) {
            x.draw(0);
            x.draw(1);
        }
        Due.due("what stops", Texts.orders(x, "lay done%3 on 2 times 12;draw 2 times 12;draw 2"), -3);
        int[] first = {0, 1, 2, 1};
        int[] second = {2, 0, 1, 0};
        for (int i = 0; i < 4; i++) {
            Due.due("undo() of draw(1)", x.undo(), 2);
            Due.due("its place", x.of(1, 12 + i), second[i]);
            Due.due("undo() of draw(0)", x.undo(), 2);
            Due.due("its place", x.of(0, 12 + i), first[i]);
        }
        for (int i = 3; i >= 0; i--) {
            Due.due("undo() of lay() on 1", x.undo(), 0);
            Due.due("moves of 1", x.of(1, 3), i);
        }
        for (int i = 3; i >= 0; i--) {
            Due.due("undo() of lay() on 0", x.undo(), 0);
            Due.due("moves of 0", x.of(0, 3), i);
        }
        Due.due("knot 2 was never laid", x.of(2, 3), 0);
    }

    public static void main(String[] args) throws IOException {
        Due.readDocument();
        List<Runnable> all = new ArrayList<>(List.of(TermsBoundsTest::calls, TermsBoundsTest::knots, TermsBoundsTest::starts,
                TermsBoundsTest::sizes, TermsBoundsTest::places, TermsBoundsTest::throughAtFirst, TermsBoundsTest::sides));
        all.addAll(List.of(TermsBoundsTest::boys, TermsBoundsTest::sights, TermsBoundsTest::terms, TermsBoundsTest::refusals,
                TermsBoundsTest::orderOfRefusals, TermsBoundsTest::tape, TermsBoundsTest::tokens, TermsBoundsTest::clauses));
        all.addAll(List.of(TermsBoundsTest::grammar, TermsBoundsTest::numbers, TermsBoundsTest::parts, TermsBoundsTest::brackets,
                TermsBoundsTest::faults, TermsBoundsTest::clauseForms, TermsBoundsTest::comparisons, TermsBoundsTest::far, TermsBoundsTest::division, TermsBoundsTest::shortCuts));
        all.addAll(List.of(TermsBoundsTest::laws, TermsBoundsTest::words, TermsBoundsTest::lawWords, TermsBoundsTest::holding, TermsBoundsTest::taking,
                TermsBoundsTest::gripping, TermsBoundsTest::times, TermsBoundsTest::asking, TermsBoundsTest::clauseByClause,
                TermsBoundsTest::orderWords, TermsBoundsTest::stopping));
        all.forEach(Runnable::run);
        Due.allTold("I", "II");
        Due.end();
    }
}
