import java.io.IOException;
import java.util.Arrays;
import java.util.List;

/** Each sentence of the document's terms III and IV has a test of its own here. */
public final class KnotsBoundsTest {
    private static NeckKnots tied() {
        NeckKnots x = new NeckKnots();
        Due.tied(x, 0, 1, 0, 1, 2);
        return x;
    }

    private static NeckKnots clothed(int cloth, int... places) {
        NeckKnots x = new NeckKnots();
        x.knot(0, 1, cloth);
        Due.lay(x, 0, places);
        return x;
    }

    // ---- III: what is done with knots ----

    private static void laying() {
        Due.sentence("III", "To LAY a MOVE: not THROUGH, to another PLACE than the last one, not BARRED,"
                + " the CLOTH is enough for all MOVES then.");
        Due.refused(KnotsBoundsTest::tied, "lay() behind through()", x -> x.lay(0, 0), -3);
        NeckKnots drawn = tied();
        drawn.draw(0);
        Due.due("lay() when it is not through any more", drawn.lay(0, 0), 4);
        Due.refused(() -> Due.with(0, 1, 2), "lay() to the last place", x -> x.lay(0, 2), -3);
        Due.refused(() -> {
            NeckKnots x = Due.ruled("bars if at = 1 and place = 2");
            x.knot(0, 1, 200);
            x.lay(0, 0);
            return x;
        }, "lay() that is barred", x -> x.lay(0, 2), -3);
        Due.due("just enough for one", clothed(3).lay(0, 0), 1);
        Due.refused(() -> clothed(2), "lay() with 2 of 3", x -> x.lay(0, 0), -3);
        Due.due("just enough for two", clothed(6, 0).lay(0, 1), 2);
        Due.refused(() -> clothed(5, 0), "lay() with 5 of 6", x -> x.lay(0, 1), -3);
        NeckKnots full = clothed(36, 0, 1, 0, 1, 0, 1, 0, 1, 0, 1, 0);
        Due.due("just enough for 12", full.lay(0, 1), 12);
        Due.refused(() -> clothed(35, 0, 1, 0, 1, 0, 1, 0, 1, 0, 1, 0), "lay() with 35 of 36", x -> x.lay(0, 1), -3);
        NeckKnots free = Due.ruled("takes 0");
        free.knot(0, 9, 1);
        for (int i = 0; i < 12; i++) {
            Due.due("lay() that takes nothing", free.lay(0, i % 2), i + 1);
        }
        NeckKnots dear = clothed(20, 0);
        Due.rule(dear, "takes 10");
        Due.due("both by the law of now", dear.lay(0, 1), 2);
        NeckKnots dearer = clothed(20, 0);
        Due.rule(dearer, "takes 18 - at * 15");
        Due.due("18 and 3", dearer.lay(0, 1), -3);
        Due.rule(dearer, "takes 17 - at * 14");
        Due.due("17 and 3", dearer.lay(0, 1), 2);
    }

    /** By the words of the document, one after the other. */
    private static boolean goesThrough(int start, int[] p) {
        int n = p.length;
        if (n < 3) {
            return false;
        }
        boolean centre = p[n - 1] == 2;
        boolean out = (start + n - 1) % 2 == 0;
        boolean leftRight = p[n - 2] == 0 && p[n - 3] == 1 || p[n - 2] == 1 && p[n - 3] == 0;
        return centre && out && leftRight;
    }

    private static void throughAll(int[] p) {
        for (int start = 0; start <= 1; start++) {
            NeckKnots x = Due.with(start, 1, p);
            boolean can = goesThrough(start, p);
            Due.due("through() of start " + start + " and " + Arrays.toString(p), x.through(0), can ? p.length : -3);
            Due.due("status()", x.status(), can ? 0 : -3);
            Due.due("of(0, 4)", x.of(0, 4), can ? 1 : 0);
        }
        for (int place = 0; place < 3 && p.length < 5; place++) {
            if (p.length == 0 || p[p.length - 1] != place) {
                int[] longer = Arrays.copyOf(p, p.length + 1);
                longer[p.length] = place;
                throughAll(longer);
            }
        }
    }

    private static void puttingThrough() {
        Due.sentence("III", "Put THROUGH can be one that is not, if its last MOVE is to the centre and out,"
                + " and the two ahead of that are one to the left, one to the right.");
        throughAll(new int[0]);
        Due.refused(KnotsBoundsTest::tied, "through() of one that is", x -> x.through(0), -3);
        NeckKnots x = tied();
        x.draw(0);
        Due.due("through() once more", x.through(0), 3);
        NeckKnots barred = clothed(9, 0, 1, 2);
        Due.rule(barred, "bars;takes 20;grips 0-9");
        Due.due("whatever the law", barred.through(0), 3);
        NeckKnots twelve = Due.with(1, 1, 0, 1, 0, 1, 0, 1, 0, 1, 2, 0, 1, 2);
        Due.due("through() of 12", twelve.through(0), 12);
    }

    private static void drawing() {
        Due.sentence("III", "To DRAW: it is not THROUGH any more, or else its last MOVE is gone.");
        NeckKnots x = tied();
        Due.due("draw() of one that is through", x.draw(0), 3);
        Due.due("of(0, 4)", x.of(0, 4), 0);
        Due.due("its last move", x.of(0, 14), 2);
        Due.due("draw()", x.draw(0), 2);
        Due.due("its last move is gone", x.of(0, 14), -1000);
        Due.due("draw()", x.draw(0), 1);
        Due.due("draw() of one move", x.draw(0), 0);
        Due.due("it is gone", x.of(0, 12), -1000);
        Due.refused(() -> Due.with(0, 1), "draw() of none", y -> y.draw(0), -3);
        Due.due("lay() where it has been", x.lay(0, 0), 1);
    }

    private static void mirroring() {
        Due.sentence("III", "MIRROR: left and right are changed in all MOVES (whatever is BARRED, CLOTH aside).");
        NeckKnots x = Due.with(0, 1, 0, 2, 1, 0, 1, 2, 0, 2, 1, 2, 1, 0);
        int[] due = {1, 2, 0, 1, 0, 2, 1, 2, 0, 2, 0, 1};
        Due.due("mirror() of 12", x.mirror(0), 12);
        for (int at = 0; at < 12; at++) {
            Due.due("move " + at, x.of(0, 12 + at), due[at]);
        }
        Due.due("mirror() of none", Due.with(0, 1).mirror(0), 0);
        NeckKnots centre = Due.with(0, 1, 2);
        centre.mirror(0);
        Due.due("the centre", centre.of(0, 12), 2);
        NeckKnots y = clothed(9, 0, 1, 2);
        y.through(0);
        Due.rule(y, "bars if place = 1 and at = 0;takes 20 if place = 1 and at = 0");
        Due.due("takes ahead", y.of(0, 5), 9);
        Due.due("mirror() whatever is barred, cloth aside", y.mirror(0), 3);
        Due.due("takes behind", y.of(0, 5), 26);
        Due.due("through still", y.of(0, 4), 1);
    }

    // ---- III: what knots are ----

    private static void holding() {
        Due.sentence("III", "TAKES, GRIP of a KNOT: of all its MOVES together. It HOLDS, if it is THROUGH and its GRIP is NEED or more.");
        NeckKnots x = Due.with(0, 1);
        Due.due("takes of none", x.of(0, 5), 0);
        Due.due("grip of none", x.of(0, 6), 0);
        Due.due("none holds", x.of(0, 7), 0);
        x.terms(1, 0);
        Due.due("need 0, not through", x.of(0, 7), 0);
        NeckKnots twelve = new NeckKnots();
        Due.tied(twelve, 1, 1, 0, 1, 0, 1, 0, 1, 0, 1, 2, 0, 1, 2);
        Due.rule(twelve, "takes 20;grips 0-9");
        Due.due("the most that 12 take", twelve.of(0, 5), 240);
        Due.due("the least grip", twelve.of(0, 6), -108);
        twelve.terms(1, 0);
        Due.due("below need 0", twelve.of(0, 7), 0);
        Due.rule(twelve, "takes 0;grips 9");
        Due.due("the least that 12 take", twelve.of(0, 5), 0);
        Due.due("the most grip", twelve.of(0, 6), 108);
        twelve.terms(1, 99);
        Due.due("need 99", twelve.of(0, 7), 1);
        Due.rule(twelve, "grips 9 if at < 11;grips 0 if at = 11");
        Due.due("just need 99", twelve.of(0, 7), 1);
        Due.rule(twelve, "grips 9 if at < 11;grips 0-1 if at = 11");
        Due.due("98 of need 99", twelve.of(0, 7), 0);
        NeckKnots three = tied();
        Due.due("just need 3", three.of(0, 7), 1);
        three.terms(1, 4);
        Due.due("3 of need 4", three.of(0, 7), 0);
        three.terms(1, 3);
        three.draw(0);
        Due.due("not through any more", three.of(0, 7), 0);
        Due.rule(three, "grips 0");
        three.through(0);
        three.terms(1, 0);
        Due.due("grip 0 of need 0", three.of(0, 7), 1);
        Due.rule(three, "grips 0 - at/2");
        Due.due("grip -1 of need 0", three.of(0, 7), 0);
    }

    private static void figures() {
        Due.sentence("III", "WOUND is a MOVE (but the first) one way, if it goes from left to centre, from centre to right,"
                + " from right to left, else the other way. TWISTS: how many of these are WOUND another way than that ahead.");
        int[][] knots = {{}, {0}, {0, 2}, {0, 1}, {0, 2, 1}, {2, 1, 0}, {1, 0, 2}, {0, 1, 2}, {0, 2, 0}, {0, 1, 0}, {2, 0, 2}, {1, 2, 0},
            {2, 0, 1}, {2, 1, 2}, {1, 0, 1}, {1, 2, 1}, {0, 1, 0, 1, 0, 1, 0, 1, 0, 1, 0, 1}, {0, 2, 1, 0, 2, 1, 0, 2, 1, 0, 2, 1}};
        int[] twists = {0, 0, 0, 0, 0, 0, 0, 0, 1, 1, 1, 0, 0, 1, 1, 1, 10, 0};
        for (int i = 0; i < knots.length; i++) {
            Due.due("twists of " + Arrays.toString(knots[i]), Due.with(0, 1, knots[i]).of(0, 10), twists[i]);
        }
        Due.sentence("III", "When the thin end is DRAWN OUT, of those in a row two neighbours WOUND unlike fall out,"
                + " again and again: so many are LEFT.");
        int[] left = {0, 0, 1, 1, 2, 2, 2, 2, 0, 0, 0, 2, 2, 0, 0, 0, 1, 11};
        for (int i = 0; i < knots.length; i++) {
            Due.due("left of " + Arrays.toString(knots[i]), Due.with(0, 1, knots[i]).of(0, 11), left[i]);
        }
        // left-centre +, centre-right +, right-centre -, centre-left -: the inner two fall out, then the outer two
        Due.due("again", Due.with(0, 1, 0, 2, 1, 2, 0).of(0, 11), 0);
        Due.due("again, and one is left", Due.with(0, 1, 0, 2, 1, 2, 0, 1).of(0, 11), 1);
        Due.sentence("III", "CENTRES: how many MOVES to the centre; LEAN: how many to the left less those to the right.");
        Due.due("centres of none", Due.with(0, 1).of(0, 8), 0);
        Due.due("lean of none", Due.with(0, 1).of(0, 9), 0);
        NeckKnots x = Due.with(0, 1, 0, 2, 0, 2, 0, 2, 0, 2, 0, 2, 0, 2);
        Due.due("the most centres", x.of(0, 8), 6);
        Due.due("the most lean", x.of(0, 9), 6);
        x.mirror(0);
        Due.due("the least lean", x.of(0, 9), -6);
    }

    private static void front(int start, int[] places, int... due) {
        NeckKnots x = Due.with(start, 1, places);
        for (int i = 0; i < 3; i++) {
            Due.due("front(0, " + i + ") of start " + start + " and " + Arrays.toString(places), x.front(0, i),
                    i < due.length ? due[i] : -1);
        }
    }

    private static void fronts() {
        Due.sentence("III", "The FRONT of MOVES: PLACES to which some are out, the one of which the last such MOVE is latest first.");
        front(0, new int[] {});
        front(1, new int[] {0});
        front(0, new int[] {0}, 0);
        front(1, new int[] {0, 1}, 1);
        front(0, new int[] {0, 1}, 0);
        front(0, new int[] {0, 1, 2}, 2, 0);
        front(0, new int[] {0, 1, 0}, 0);
        front(0, new int[] {0, 1, 2, 0, 1}, 1, 2, 0);
        front(0, new int[] {0, 1, 2, 1, 0}, 0, 2);
        front(0, new int[] {0, 1, 2, 0, 1, 2, 0}, 0, 1, 2);
        front(1, new int[] {0, 1, 0, 1, 0, 1, 0, 1, 0, 1, 0, 2}, 2, 1);
    }

    // ---- III: on paper ----

    private static void words() {
        Due.sentence("III", "WORDS of n MOVES, 3 .. 12, of which the last is out (so START is told by n), THICK by TERM;"
                + " PROPER is one that could be put THROUGH and has no BARRED MOVE; in order by their first PLACES, and so on.");
        NeckKnots x = new NeckKnots();
        Due.due("ways(2, NONE)", x.ways(2, -1), -1);
        Due.due("ways(3, NONE)", x.ways(3, -1), 2);
        Due.due("ways(12, NONE)", x.ways(12, -1), 1024);
        Due.due("ways(13, NONE)", x.ways(13, -1), -1);
        for (int n = 3; n <= 12; n++) {
            NeckKnots y = Due.ruled("bars if side = 1 and at = 0");
            Due.due("words of " + n + " start out", y.ways(n, -1), n % 2 == 1 ? 1 << (n - 2) : 0);
            Due.rule(y, "bars if at = " + (n - 1) + " and side = 1");
            Due.due("the last of " + n + " is out", y.ways(n, -1), 1 << (n - 2));
            Due.rule(y, "bars if at = " + (n - 1));
            Due.due("the last of " + n + " is barred", y.ways(n, -1), 0);
            Due.rule(y, "bars if at = 0");
            Due.due("the first of " + n + " is barred", y.ways(n, -1), 0);
        }
        NeckKnots thick = Due.ruled("bars if thick = 2");
        Due.due("thick 2", thick.ways(3, -1), 0);
        thick.terms(2, 1);
        Due.due("thick 1", thick.ways(3, -1), 2);
        barredPairs();
        NeckKnots lengths = Due.ruled("bars if at = 11 and before = 2;grips 0-9 if at = 11");
        for (int n : new int[] {4, 5, 6, 3, 12, 11, 4, 7, 10, 9, 8, 12}) {
            Due.due("words of " + n + " among others", lengths.ways(n, -1), 1 << (n - 2));
        }
        int last = -1;
        for (int i = 0; i < 8; i++) {
            int code = 0;
            for (int k = 0; k < 5; k++) {
                code = code * 3 + x.word(5, i, k);
            }
            Due.due("word " + i + " is behind the one ahead", code > last ? 1 : 0, 1);
            last = code;
        }
        Due.due("no 9th", x.word(5, 8, 0), -1);
    }

    /** Of all words of 5 those are left that have not the one barred move. */
    private static void barredPairs() {
        NeckKnots free = new NeckKnots();
        for (int at = 1; at < 5; at++) {
            for (int before = 0; before < 3; before++) {
                for (int place = 0; place < 3; place++) {
                    int left = 0;
                    for (int i = 0; i < 8; i++) {
                        left += free.word(5, i, at - 1) == before && free.word(5, i, at) == place ? 0 : 1;
                    }
                    String law = "bars if at = " + at + " and before = " + before + " and place = " + place;
                    Due.due("ways(5, NONE) by " + law, Due.ruled(law).ways(5, -1), left);
                }
            }
            free = new NeckKnots();
        }
    }

    private static void best(NeckKnots x, int cloth, int... places) {
        Due.due("best(" + cloth + ", 0)", x.best(cloth, 0), places.length == 0 ? -1 : places.length);
        for (int k = 0; k < places.length; k++) {
            Due.due("best(" + cloth + ", " + (4 + k) + ")", x.best(cloth, 4 + k), places[k]);
        }
    }

    private static void bests() {
        Due.sentence("III", "The BEST for so much CLOTH: of all PROPER WORDS that TAKE no more, GRIP NEED or more:"
                + " of the least LEAN (without sign), then of the most TWISTS, then of the fewest MOVES, then the first.");
        NeckKnots x = new NeckKnots();
        best(x, 11);
        best(x, 12, 0, 1, 2);
        Due.due("it takes just so much", x.best(12, 3), 12);
        // of 4 moves 0102 has a twist, but leans; 2012 does not lean, but has no twist and more moves
        best(x, 16, 0, 1, 2);
        // 01012: lean 0, two twists
        best(x, 20, 0, 1, 0, 1, 2);
        best(x, 19, 0, 1, 2);
        x.terms(1, 4);
        best(x, 15);
        best(x, 16, 2, 0, 1, 2);
        x.terms(1, 12);
        best(x, 47);
        Due.due("just need 12", x.best(48, 0), 12);
        x.terms(1, 13);
        best(x, 200);
        // words of 4 alone that begin on the left or the right: both lean, one to either side, as far
        NeckKnots leaning = Due.ruled("bars if at = 0 and (side = 0 or place = 2)");
        best(leaning, 16, 0, 1, 0, 2);
        Due.due("lean without sign", leaning.best(16, 1), 1);
        Due.rule(leaning, "bars if at = 0 and (side = 0 or not place = 1)");
        best(leaning, 16, 1, 0, 1, 2);
        Due.due("lean without sign", leaning.best(16, 1), 1);
        NeckKnots barred = Due.ruled("bars");
        best(barred, 200);
        NeckKnots dear = Due.ruled("takes 20");
        best(dear, 59);
        best(dear, 60, 0, 1, 2);
        Due.due("all that 10 take is 200", dear.best(200, 3) <= 200 ? 1 : 0, 1);
        NeckKnots weak = Due.ruled("grips 1;grips 0 if at = 2");
        Due.due("3 moves grip 2 of 3, 4 grip 3", weak.best(16, 0), 4);
    }

    private static void changes() {
        Due.sentence("III", "CHANGED: of PROPER WORDS of as many MOVES that of which the fewest PLACES are unlike; the first.");
        NeckKnots x = Due.with(0, 1, 2, 0);
        Due.due("2 moves", x.change(0, 0), -1);
        x.lay(0, 2);
        // 202: 102 has one unlike, 012 two
        Due.due("202", x.change(0, 0), 1);
        Due.due("102", x.change(0, 1), 1);
        NeckKnots y = Due.with(0, 1, 2, 1, 2);
        Due.due("212", y.change(0, 0), 1);
        Due.due("012", y.change(0, 1), 0);
        NeckKnots z = Due.with(0, 1, 2, 1, 0);
        Due.due("210: 012 has two unlike, 102 three", z.change(0, 0), 2);
        Due.due("012", z.change(0, 1), 0);
        NeckKnots w = Due.with(0, 1, 0, 2, 0);
        Due.due("020: 012 has two unlike, 102 three", w.change(0, 0), 2);
        Due.due("012", w.change(0, 1), 0);
        NeckKnots v = Due.with(0, 1, 1, 2, 1);
        Due.due("121: 102 has two unlike, 012 three", v.change(0, 0), 2);
        Due.due("102", v.change(0, 1), 1);
        NeckKnots tie = Due.with(0, 1, 2, 0, 2, 0);
        Due.due("2020: 2012 has two unlike", tie.change(0, 0), 2);
        Due.due("2012", tie.change(0, 2), 0);
        Due.rule(tie, "bars if at = 0 and place = 2");
        // 0102 and 1012 are left: 1012 has three unlike, 0102 four
        Due.due("the fewest, though not the first", tie.change(0, 0), 3);
        Due.due("1012", tie.change(0, 1), 1);
        NeckKnots even = Due.with(0, 1, 0, 2, 1, 2);
        // 0102 has two unlike (at 1, 2), 1012 has two (at 0, 1): equal
        Due.due("0212: two words have two unlike", even.change(0, 0), 2);
        Due.due("the first of them", even.change(0, 1), 0);
        Due.due("the first of them", even.change(0, 3), 0);
        NeckKnots proper = Due.with(1, 1, 1, 0, 2);
        Due.due("none is unlike", proper.change(0, 0), 0);
        NeckKnots twelve = Due.with(0, 1, 0, 1, 0, 1, 0, 1, 0, 1, 0, 1, 0, 1);
        // the last must be the centre: 010101010102 has that one unlike
        Due.due("of 12", twelve.change(0, 0), 1);
        Due.due("its last", twelve.change(0, 12), 2);
    }

    private static void fitting() {
        Due.sentence("III", "FITTING: PROPER WORDS by which all SIGHTS of MOVES they have are so; in a MIRROR with left and right"
                + " changed in the WORD.");
        NeckKnots x = new NeckKnots();
        Due.due("without sights", x.fits(4, 0, -1, 0), 4);
        for (int place = 0; place < 3; place++) {
            x.sight(4, place);
            Due.due("a sight of a move that 4 have not", x.fits(4, 0, -1, 0), 4);
            Due.due("a sight of a move that 4 have not, in a mirror", x.fits(4, 1, -1, 0), 4);
            Due.due("a sight of a move that 5 have", x.fits(5, 0, -1, 0), place == 2 ? 8 : 0);
            x.forget();
        }
        x.sight(3, 2);
        Due.due("a sight of the last of 4", x.fits(4, 0, -1, 0), 4);
        x.sight(0, 0);
        x.sight(0, 0);
        Due.due("the same sight twice", x.fits(4, 0, -1, 0), 1);
        Due.due("in a mirror the other one", x.fits(4, 1, 0, 0), 1);
        x.sight(0, 1);
        Due.due("against one another", x.fits(4, 0, -1, 0), 0);
        Due.due("against one another in a mirror", x.fits(4, 1, -1, 0), 0);
        x.forget();
        x.sight(0, 2);
        Due.due("the centre is the same in a mirror", x.fits(4, 1, -1, 0), x.fits(4, 0, -1, 0));
        Due.due("the centre", x.fits(4, 1, -1, 0), 2);
        x.forget();
        int[] seen = {1, 0, 1, 0, 1, 0, 1, 0, 1, 0, 1, 2};
        for (int k = 0; k < 12; k++) {
            x.sight(k, seen[k]);
        }
        Due.due("12 sights", x.fits(12, 0, -1, 0), 1);
        Due.due("12 sights in a mirror", x.fits(12, 1, 0, 0), 0);
        NeckKnots oneSided = Due.ruled("bars if at = 0 and place = 1");
        oneSided.sight(0, 0);
        Due.due("0102", oneSided.fits(4, 0, -1, 0), 1);
        Due.due("1012 is barred", oneSided.fits(4, 1, -1, 0), 0);
        oneSided.forget();
        oneSided.sight(0, 1);
        Due.due("1012 is barred", oneSided.fits(4, 0, -1, 0), 0);
        Due.due("0102 in a mirror", oneSided.fits(4, 1, -1, 0), 1);
    }

    private static void looking() {
        Due.sentence("III", "To LOOK: the MOVE at which of those FITTING the most to one PLACE are as few as can be; the lowest.");
        NeckKnots x = new NeckKnots();
        Due.due("of 3: moves 0 and 1 halve it", x.look(3, 0), 0);
        // of 4: 0102 1012 2012 2102: at 0 the most are two, at 1, 2 two, at 3 four
        Due.due("of 4", x.look(4, 0), 0);
        x.sight(0, 2);
        Due.due("2012 2102: at 0 both", x.look(4, 0), 1);
        x.sight(1, 0);
        Due.due("one alone: the lowest", x.look(4, 0), 0);
        x.sight(1, 1);
        Due.due("none is fitting", x.look(4, 0), -1);
        x.forget();
        // in a mirror 0 seen on the right is 0 in the word
        Due.rule(x, "bars if at = 0 and place = 1");
        x.sight(0, 0);
        Due.due("0102 alone", x.look(4, 0), 0);
        Due.due("none in a mirror", x.look(4, 1), -1);
        Due.rule(x, "bars if at = 0 and not place = 2");
        x.forget();
        x.sight(0, 1);
        Due.due("all begin in the centre", x.look(4, 0), -1);
        x.forget();
        Due.due("2012 2102: at 0 both", x.look(4, 1), 1);
        NeckKnots even = Due.ruled("bars if at = 0 and not place = 0;bars if at = 1 and not place = 2");
        // 02012 02102: the first that parts them is move 2
        Due.due("as few as can be", even.look(5, 0), 2);
    }

    private static void row(NeckKnots x, int... due) {
        int many = 0;
        for (int b = 0; b < due.length; b++) {
            Due.due("wear(" + (1 + b) + ")", x.wear(1 + b), due[b]);
            many += due[b] == 100 ? 0 : 1;
        }
        Due.due("wear(0)", x.wear(0), many);
        Due.due("wear(" + (1 + due.length) + ")", x.wear(1 + due.length), -1);
    }

    private static void wearing() {
        Due.sentence("III", "WEARING: each BOY one KNOT that HOLDS and TAKES no more than the BOY's CLOTH,"
                + " no two KNOTS of one FRONT (nor one KNOT twice), or none: as many BOYS as can be;"
                + " the first as a row of KNOTS by BOYS (none last).");
        NeckKnots x = new NeckKnots();
        row(x);
        x.boy(200);
        row(x, 100);
        Due.tied(x, 0, 1, 0, 1, 2);
        row(x, 0);
        x.boy(200);
        row(x, 0, 100);
        x.home();
        x.boy(8);
        row(x, 100);
        x.boy(9);
        row(x, 100, 0);
        x.terms(1, 3);
        row(x, 100, 0);
        x.terms(1, 4);
        row(x, 100, 100);
        x.terms(1, 3);
        x.draw(0);
        row(x, 100, 100);
        x.through(0);
        Due.tied(x, 0, 1, 0, 1, 2);
        x.boy(9);
        row(x, 100, 0, 100);
        Due.tied(x, 0, 1, 1, 0, 2);
        row(x, 100, 0, 2);
        NeckKnots many = new NeckKnots();
        Due.tied(many, 0, 1, 1, 0, 2);
        Due.tied(many, 0, 9, 0, 1, 2);
        many.boy(200);
        many.boy(10);
        row(many, 1, 0);
        wearingAll();
        NeckKnots last = new NeckKnots();
        for (int k = 0; k < 7; k++) {
            last.knot(0, 1, 200);
            Due.lay(last, k, 0, 1, 2);
        }
        Due.tied(last, 0, 1, 0, 1, 2);
        for (int b = 0; b < 6; b++) {
            last.boy(b == 0 ? 8 : 9);
        }
        row(last, 100, 7, 100, 100, 100, 100);
    }

    /** The four fronts that a knot which is through can have, each twice, for six boys. */
    private static void wearingAll() {
        NeckKnots x = new NeckKnots();
        for (int i = 0; i < 2; i++) {
            Due.tied(x, 0, 1, 0, 1, 2);
            Due.tied(x, 0, 1, 1, 0, 2);
            Due.tied(x, 0, 1, 1, 2, 0, 1, 0, 1, 2);
            Due.tied(x, 0, 1, 0, 1, 0, 2, 1, 0, 2);
        }
        for (int b = 0; b < 6; b++) {
            x.boy(200);
        }
        row(x, 0, 1, 2, 3, 100, 100);
    }

    // ---- IV ----

    private static void hands(int seed, int n, int m) {
        long s = seed;
        int[] p = new int[m];
        int proper = 0;
        for (int i = 0; i < n; i++) {
            for (int k = 0; k < m; k++) {
                s = (s * 1103 + 12345) % 1000003;
                int[] can = k == 0 ? new int[] {0, 1, 2} : p[k - 1] == 0 ? new int[] {1, 2} : p[k - 1] == 1 ? new int[] {0, 2}
                        : new int[] {0, 1};
                p[k] = can[(int) (s % can.length)];
            }
            proper += goesThrough((m + 1) % 2, p) ? 1 : 0;
        }
        String call = "hands(" + seed + ", " + n + ", " + m + ")";
        NeckKnots x = new NeckKnots();
        Due.due(call, x.hands(seed, n, m), proper);
        for (int k = 0; k < m; k++) {
            Due.due("drawn(" + (2 + k) + ") behind " + call, x.drawn(2 + k), p[k]);
        }
        Due.due("drawn(" + (2 + m) + ") behind " + call, x.drawn(2 + m), -1);
    }

    /** The seed behind which the first draw is s. */
    private static int seedAhead(int s) {
        for (int seed = 0; seed <= 1000000; seed++) {
            if ((seed * 1103L + 12345) % 1000003 == s) {
                return seed;
            }
        }
        return -1;
    }

    private static void hands() {
        Due.sentence("IV", "HANDS with a SEED, n 1 .. 100, of m MOVES 3 .. 12: s is the SEED (0 .. 1,000,000)");
        for (int[] good : new int[][] {{0, 1, 3}, {1000000, 100, 12}, {0, 100, 3}, {1000000, 1, 12}, {1, 2, 4}, {999999, 99, 11}}) {
            hands(good[0], good[1], good[2]);
        }
        int[][] bad = {{-1, 1, 3}, {1000001, 1, 3}, {0, 0, 3}, {0, 101, 3}, {0, 1, 2}, {0, 1, 13}, {0, -1, 3}, {0, 1, -3},
            {Integer.MIN_VALUE, 1, 3}, {Integer.MAX_VALUE, 1, 3}, {0, Integer.MIN_VALUE, 3}, {0, Integer.MAX_VALUE, 3},
            {0, 1, Integer.MIN_VALUE}, {0, 1, Integer.MAX_VALUE}};
        for (int[] b : bad) {
            Due.refused(NeckKnots::new, "hands(" + b[0] + ", " + b[1] + ", " + b[2] + ")", x -> x.hands(b[0], b[1], b[2]), -1);
        }
        Due.sentence("IV", "a DRAW of m: s becomes (s times 1103 and 12345) modulo 1,000,003, it is s modulo m.");
        for (int s : new int[] {0, 1, 2, 3, 1000000, 1000001, 1000002}) {
            int seed = seedAhead(s);
            if (seed >= 0) {
                hands(seed, 3, 5);
            }
        }
        Due.due("seeds ahead of 0 and of 1000002", Math.min(seedAhead(0), seedAhead(1000002)) >= 0 ? 1 : 0, 1);
        Due.sentence("IV", "Each time a WORD: a DRAW of 3 the first PLACE, a DRAW of 2 each other one"
                + " (of the two that can be, the lower first).");
        for (int seed = 100; seed < 130; seed++) {
            hands(seed, 7, 12);
        }
    }

    private static int[] bytes(int many) {
        int[] row = new int[many];
        for (int i = 0; i < many; i++) {
            row[i] = i % 3 == 0 ? 0 : 1;
        }
        return row;
    }

    private static void row(int came, int lint, int... bytes) {
        NeckKnots x = new NeckKnots();
        Due.due("row() of " + bytes.length, Texts.row(x, bytes), came);
        Due.due("lint()", x.lint(), lint);
        Due.due("count(0)", x.count(0), came);
        Due.due("status()", x.status(), 0);
    }

    private static void rows() {
        Due.sentence("IV", "A ROW: the TAPE's bytes by threes: START, THICK, CLOTH: a KNOT without MOVES; one that can't be,"
                + " one within which the TAPE ends, one for which there is no room is LINT: none.");
        row(0, 1, bytes(1));
        row(0, 1, bytes(2));
        row(1, 0, bytes(3));
        row(1, 1, bytes(4));
        row(1, 1, bytes(5));
        row(2, 0, bytes(6));
        row(8, 0, bytes(24));
        row(8, 1, bytes(25));
        row(8, 1, bytes(27));
        row(8, 126, bytes(400));
        row(0, 134, new int[400]);
        row(1, 0, 1, 9, 200);
        row(0, 1, 2, 1, 1);
        row(0, 1, 255, 1, 1);
        row(0, 1, 0, 0, 1);
        row(0, 1, 0, 10, 1);
        row(0, 1, 0, 255, 1);
        row(0, 1, 0, 1, 0);
        row(0, 1, 0, 1, 201);
        row(0, 1, 0, 1, 255);
        row(2, 1, 0, 1, 1, 2, 1, 1, 1, 9, 200);
        NeckKnots x = new NeckKnots();
        Texts.row(x, 2, 1, 1, 1, 9, 200);
        Due.due("the number behind lint", x.of(0, 2), 200);
        Due.due("start", x.of(0, 0), 1);
        Due.due("thick", x.of(0, 1), 9);
        Due.due("moves", x.of(0, 3), 0);
        Due.due("through", x.of(0, 4), 0);
        for (int length = 1; length < 6; length++) {
            NeckKnots cut = new NeckKnots();
            cut.feed(0x00010100, 0x01010001, 0x01000101, 0x00010100, 0x01010001);
            cut.end(length);
            Due.due("row() of " + length + " when more has been there", cut.row(), length / 3);
            Due.due("lint()", cut.lint(), length % 3 == 0 ? 0 : 1);
        }
        NeckKnots full = new NeckKnots();
        Texts.row(full, bytes(24));
        Due.due("row() with no room", Texts.row(full, bytes(3)), 0);
        Due.due("lint() with no room", full.lint(), 1);
        Due.due("status()", full.status(), 0);
    }

    private static void images() {
        Due.sentence("IV", "IMAGES 0, 1 keep all but the TAPE, FAULT, LINT, where ORDERS stopped,"
                + " what can be undone (nothing, behind back()), the latest HANDS;"
                + " BACK to one all that it keeps is as it was then (IMAGES stay).");
        NeckKnots x = Due.with(0, 1, 0);
        x.image(0);
        x.lay(0, 1);
        x.image(1);
        x.lay(0, 2);
        x.through(0);
        x.feed(1, 2, 3, 4, 5);
        Due.due("count(4) ahead", x.count(4), 4);
        Due.due("back(0)", x.back(0), 0);
        Due.due("count(4) behind", x.count(4), 0);
        Due.due("undo() behind back()", x.undo(), -3);
        Due.due("the tape stays", x.count(5), 20);
        Due.due("moves", x.of(0, 3), 1);
        Due.due("through", x.of(0, 4), 0);
        Due.due("back(1)", x.back(1), 0);
        Due.due("moves", x.of(0, 3), 2);
        Due.due("back(0) once more", x.back(0), 0);
        Due.due("moves", x.of(0, 3), 1);
        NeckKnots y = new NeckKnots();
        Due.due("image() of nothing", y.image(1), 0);
        Texts.law(y, "bars ?");
        Texts.orders(y, "draw 0");
        Texts.law(y, "takes ?");
        Texts.row(y, 9);
        y.hands(0, 1, 3);
        Due.tied(y, 0, 1, 0, 1, 2);
        y.boy(9);
        y.sight(0, 0);
        y.terms(0, 9);
        y.terms(1, 9);
        y.terms(2, 9);
        Due.rule(y, "bars");
        Texts.orders(y, "draw 0 times 9");
        Texts.law(y, "bars 1");
        int[] ahead = {y.fault(), y.lint(), y.stopped(), y.drawn(2), y.drawn(3), y.drawn(4), y.count(8), y.count(10)};
        Due.due("back(1)", y.back(1), 0);
        int[] behind = {y.fault(), y.lint(), y.stopped(), y.drawn(2), y.drawn(3), y.drawn(4), y.count(8), y.count(10)};
        for (int i = 0; i < ahead.length; i++) {
            Due.due("what images don't keep, " + i, behind[i], ahead[i]);
        }
        for (int what = 0; what < 6; what++) {
            Due.due("count(" + what + ")", y.count(what), 0);
        }
        int[] terms = {-1, 0, 3, 2};
        for (int i = 0; i < terms.length; i++) {
            Due.due("count(" + (11 + i) + ")", y.count(11 + i), terms[i]);
        }
        Due.due("no such knot", y.of(0, 0), -1000);
        Due.due("no such law", y.force(0), -2);
        Due.due("no boy", y.wear(1), -1);
    }

    public static void main(String[] args) throws IOException {
        Due.readDocument();
        List.<Runnable>of(KnotsBoundsTest::laying, KnotsBoundsTest::puttingThrough, KnotsBoundsTest::drawing,
                KnotsBoundsTest::mirroring, KnotsBoundsTest::holding, KnotsBoundsTest::figures, KnotsBoundsTest::fronts,
                KnotsBoundsTest::words, KnotsBoundsTest::bests, KnotsBoundsTest::changes).forEach(Runnable::run);
        List.<Runnable>of(KnotsBoundsTest::fitting, KnotsBoundsTest::looking, KnotsBoundsTest::wearing, KnotsBoundsTest::hands,
                KnotsBoundsTest::rows, KnotsBoundsTest::images).forEach(Runnable::run);
        Due.allTold("III", "IV");
        Due.end();
    }
}
