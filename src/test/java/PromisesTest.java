/** For each promise of the document its ordinary answers, its edges and what it refuses. */
public final class PromisesTest {
    private static int wrong = 0;
    private static int asked = 0;
    private static int promise = 0;

    private static void due(String call, int got, int want) {
        asked++;
        if (got != want) {
            wrong++;
            System.out.println("promise " + promise + ": " + call + " answered " + got + ", due is " + want);
        }
    }

    private static void refused(NeckKnots x, String call, int got, int want) {
        due(call, got, want);
        due("status() behind " + call, x.status(), want);
    }

    private static void lay(NeckKnots x, int knot, int... places) {
        for (int place : places) {
            x.lay(knot, place);
        }
    }

    private static NeckKnots withLaw(String law) {
        NeckKnots x = new NeckKnots();
        due("law " + law, Texts.law(x, law), 0);
        due("force(0)", x.force(0), -1);
        return x;
    }

    /** A knot that is through, of short moves and much cloth. */
    private static int tied(NeckKnots x, int start, int thick, int... places) {
        int knot = x.knot(start, thick, 200);
        lay(x, knot, places);
        due("through", x.through(knot), places.length);
        return knot;
    }

    private static void newObject() {
        promise = 1;
        NeckKnots x = new NeckKnots();
        int[] due = {0, 0, 0, 0, 0, 0, 0, 0, 0, 0, 0, -1, 0, 3, 2};
        for (int what = 0; what < due.length; what++) {
            due("count(" + what + ")", x.count(what), due[what]);
        }
        due("status", x.status(), 0);
        due("fault", x.fault(), -1);
        due("stopped", x.stopped(), -1);
        due("lint", x.lint(), 0);
        due("wear(0)", x.wear(0), 0);
        due("of(0, 0)", x.of(0, 0), -1000);
        due("two objects are apart", new NeckKnots().knot(0, 1, 1) + x.count(0), 0);
    }

    private static void knot() {
        promise = 2;
        NeckKnots x = new NeckKnots();
        int[][] bad = {{-1, 1, 1}, {2, 1, 1}, {0, 0, 1}, {0, 10, 1}, {0, 1, 0}, {0, 1, 201}, {Integer.MIN_VALUE, 1, 1}};
        for (int[] b : bad) {
            refused(x, "knot", x.knot(b[0], b[1], b[2]), -1);
        }
        due("count(0)", x.count(0), 0);
        for (int i = 0; i < 8; i++) {
            due("knot", x.knot(i % 2, i % 2 == 0 ? 1 : 9, i % 2 == 0 ? 1 : 200), i);
        }
        due("status", x.status(), 0);
        refused(x, "a 9th knot", x.knot(0, 1, 1), -5);
        refused(x, "-1 ahead of -5", x.knot(0, 0, 1), -1);
        due("moves", x.of(7, 3), 0);
        due("through", x.of(7, 4), 0);
    }

    private static void of() {
        promise = 3;
        NeckKnots x = new NeckKnots();
        x.knot(1, 3, 99);
        int[] empty = {1, 3, 99, 0, 0, 0, 0, 0, 0, 0, 0, 0, -1000};
        for (int what = 0; what < empty.length; what++) {
            due("of(0, " + what + ")", x.of(0, what), empty[what]);
        }
        lay(x, 0, 2, 0, 1, 0, 1, 2);
        // wound: centre-left -, left-right -, right-left +, left-right -, right-centre -
        int[] full = {1, 3, 99, 6, 0, 30, 6, 0, 2, 0, 2, 3, 2, 0, 1, 0, 1, 2, -1000};
        for (int what = 0; what < full.length; what++) {
            due("of(0, " + what + ")", x.of(0, what), full[what]);
        }
        x.through(0);
        due("through", x.of(0, 4), 1);
        due("holds", x.of(0, 7), 1);
        x.terms(1, 6);
        due("holds by just the need", x.of(0, 7), 1);
        x.terms(1, 7);
        due("holds no more", x.of(0, 7), 0);
        due("no such knot", x.of(1, 0), -1000);
        due("no such knot", x.of(-1, 0), -1000);
        due("what", x.of(0, -1), -1000);
        due("what", x.of(0, Integer.MIN_VALUE), -1000);
        due("what", x.of(0, Integer.MAX_VALUE), -1000);
        int right = x.knot(0, 1, 200);
        lay(x, right, 1, 2, 1, 2);
        due("lean to the right", x.of(right, 9), -2);
        int round = x.knot(0, 1, 200);
        lay(x, round, 0, 2, 1, 0, 2, 1, 0, 2, 1, 0, 2, 1);
        due("all wound one way: twists", x.of(round, 10), 0);
        due("all wound one way: left", x.of(round, 11), 11);
    }

    private static void terms() {
        promise = 4;
        NeckKnots x = new NeckKnots();
        int[][] bad = {{-1, 1}, {3, 1}, {0, -1}, {0, 10}, {1, -1}, {1, 100}, {2, 0}, {2, 10}};
        for (int[] b : bad) {
            refused(x, "terms", x.terms(b[0], b[1]), -1);
        }
        due("mood", x.terms(0, 9), 0);
        due("mood", x.terms(0, 0), 9);
        due("need", x.terms(1, 99), 3);
        due("need", x.terms(1, 0), 99);
        due("thick", x.terms(2, 9), 2);
        due("thick", x.terms(2, 1), 9);
        due("count(12)", x.count(12), 0);
        due("count(13)", x.count(13), 0);
        due("count(14)", x.count(14), 1);
        NeckKnots y = withLaw("takes mood + 1; grips thick");
        y.knot(0, 4, 200);
        y.terms(0, 7);
        due("mood is asked", y.asks(0, 0, 0), 8);
        due("thick is the knot's", y.asks(0, 0, 1), 4);
        y.terms(0, 0);
        y.terms(2, 9);
        y.terms(1, 99);
        due("thick on paper is the term's: 11 moves grip 99", y.best(200, 0), 11);
        due("each takes 1", y.best(200, 3), 11);
        y.terms(2, 8);
        due("12 moves grip 96", y.best(200, 0), -1);
    }

    private static void tape() {
        promise = 5;
        NeckKnots x = new NeckKnots();
        for (int i = 1; i <= 20; i++) {
            due("feed", x.feed(-1, 0, 0, 0, 0), 20 * i);
        }
        due("feed beyond 400", x.feed(0, 0, 0, 0, 0), -1);
        due("status is not touched", x.status(), 0);
        due("tape", x.count(5), 400);
        x.end(0);
        x.feed(0x000109c8, 0, 0, 0, 0);
        x.end(4);
        due("bytes, the highest first", x.row(), 1);
        due("bytes, the highest first", x.of(0, 2), 9);
        x.feed(0x0109c800, 0, 0, 0, 0);
        x.end(3);
        due("bytes above 127", x.row(), 1);
        due("bytes above 127", x.of(1, 2), 200);
        promise = 6;
        x.feed(1, 2, 3, 4, 5);
        due("end", x.end(21), -1);
        due("end", x.end(-1), -1);
        due("end", x.end(Integer.MIN_VALUE), -1);
        due("tape", x.count(5), 20);
        due("end", x.end(20), 20);
        due("end", x.end(7), 7);
        due("end", x.end(8), -1);
        due("feed behind what is left", x.feed(1, 2, 3, 4, 5), 27);
        due("end", x.end(0), 0);
        x.end(0);
        for (int i = 0; i < 19; i++) {
            x.feed(0, 0, 0, 0, 0);
        }
        x.end(379);
        x.feed(0, 0, 0, 0, 0);
        due("399 bytes: no feed", x.feed(0, 0, 0, 0, 0), -1);
        due("399 bytes", x.count(5), 399);
    }

    private static void row() {
        promise = 7;
        NeckKnots x = new NeckKnots();
        refused(x, "row() of nothing", x.row(), -6);
        due("row", Texts.row(x, 0, 1, 1, 1, 9, 200, 2, 1, 1, 0, 0, 1, 0, 10, 1, 0, 1, 0, 0, 1, 201), 2);
        due("status", x.status(), 0);
        due("tape", x.count(5), 0);
        due("of", x.of(1, 1), 9);
        due("of", x.of(1, 0), 1);
        promise = 8;
        due("lint", x.lint(), 5);
        refused(x, "row() of nothing", x.row(), -6);
        due("lint stays", x.lint(), 5);
        due("one that ends within", Texts.row(x, 0, 1), 0);
        due("lint", x.lint(), 1);
        due("row() without knots is none that is refused", x.status(), 0);
        due("row to the full", Texts.row(x, 0, 1, 1, 0, 1, 2, 0, 1, 3, 0, 1, 4, 0, 1, 5, 0, 1, 6, 0, 1, 7, 0, 1, 8, 0), 6);
        due("lint: no room", x.lint(), 3);
        due("knots", x.count(0), 8);
        due("the last that had room", x.of(7, 2), 6);
    }

    private static void law() {
        promise = 9;
        NeckKnots x = new NeckKnots();
        due("empty text", Texts.law(x, ""), -6);
        due("fault of an empty text", x.fault(), 0);
        due("blanks alone", Texts.law(x, "   "), -6);
        due("fault of blanks", x.fault(), 3);
        due("law", Texts.law(x, "  takes 1  "), 0);
        due("fault", x.fault(), -1);
        due("tape", x.count(5), 0);
        due("laws", x.count(3), 1);
        refused(x, "law", Texts.law(x, "takes 1 ;"), -6);
        due("fault", x.fault(), 9);
        for (int i = 1; i < 6; i++) {
            due("law", Texts.law(x, "takes1;grips[2];bars if not(1=2)"), i);
        }
        due("fault", x.fault(), -1);
        refused(x, "a bad 7th law", Texts.law(x, "nonsense"), -5);
        due("fault of a text that was not read", x.fault(), -1);
        due("tape", x.count(5), 0);
        refused(x, "an empty 7th law", x.law(), -5);
        due("orders are read still", Texts.orders(x, "x"), -6);
        due("fault", x.fault(), 0);
        refused(x, "a 7th law", Texts.law(x, "bars"), -5);
        due("the fault of what was read", x.fault(), 0);
        due("refused by -5", x.count(9), 3);
    }

    private static void fault(boolean law, String text, int place) {
        NeckKnots x = new NeckKnots();
        x.knot(0, 1, 200);
        int got = law ? Texts.law(x, text) : Texts.orders(x, text);
        due("'" + text + "' refused", got == -6 ? 1 : 0, place == -1 ? 0 : 1);
        due("fault of '" + text + "'", x.fault(), place);
    }

    private static String repeated(String text, int times) {
        return text.repeat(times);
    }

    private static void faults() {
        promise = 11;
        String[] good = {"bars", "bars if 1=1", "takes 1000", "takes 0001000", "grips [[1]]", "takes 1if 1<2and 2>1or not not 1=1",
            "bars if ((1=2) or not (1=1))", "takes place+side-at*before/thick%mood", "takes 1;takes 2"};
        for (String g : good) {
            fault(true, g, -1);
        }
        fault(true, "takes 1001", 6);
        fault(true, "takes 99999999999999999999", 6);
        fault(true, "Takes 1", 0);
        fault(true, "takes\t1", 5);
        fault(true, "takes -1", 6);
        fault(true, "takes 1 2", 8);
        fault(true, "takes 1 +", 9);
        fault(true, "takes [1", 8);
        fault(true, "takes [1)", 8);
        fault(true, "takes (1)", 6);
        fault(true, "takes 1 if", 10);
        fault(true, "takes 1 if 1", 12);
        fault(true, "takes 1 if (1)", 13);
        fault(true, "takes 1 if [1 = 1]", 14);
        fault(true, "takes 1 if 1 = 2 = 3", 17);
        fault(true, "takes 1 if 1 <= 2", 14);
        fault(true, "takes 1 if not", 14);
        fault(true, "takes 1 if (1 = 1", 17);
        fault(true, "takes 1 if 1 = 1 or", 19);
        fault(true, "takes 1 if 1 = 1 and )", 21);
        fault(true, "takes 1 if if", 11);
        fault(true, "takes knots", 6);
        fault(true, "takes 1 times 2", 8);
        fault(true, "lay 1 on 0", 0);
        fault(true, "bars ifplace = 1", 5);
        fault(true, ";bars", 0);
        fault(true, "bars;;bars", 5);
        fault(true, "bars " + (char) 233, 5);
        fault(true, "bars" + (char) 0, 4);
        fault(true, "takes placed", 6);
        fault(true, "takes plac", 6);
        fault(true, "takes 1a", 7);
        fault(false, "lay 1 on 0 if many 0 = 0", -1);
        fault(false, "lay1on0;draw0", -1);
        fault(false, "lay 1 0", 6);
        fault(false, "lay 1 on", 8);
        fault(false, "takes 1", 0);
        fault(false, "on 1", 0);
        fault(false, "draw place", 5);
        fault(false, "draw many", 9);
        fault(false, "draw many 8", 10);
        fault(false, "draw many knots", 10);
        fault(false, "mirror many [0]", 12);
        fault(false, "mirror 0 times 20", -1);
        fault(false, "mirror 0 times 21", 15);
        fault(false, "mirror 0 times 0", 15);
        fault(false, "mirror 0 times done", 15);
        fault(false, "mirror 0 times 1+1", 16);
        fault(false, "mirror 0 if 1 = 1 times 2", 18);
        fault(false, "mirror 0 times 2 times 2", 17);
        limits();
    }

    private static void limits() {
        String twelve = repeated("bars;", 11) + "bars";
        fault(true, twelve, -1);
        fault(true, twelve + "; bars", 61);
        fault(true, twelve + ";", 60);
        fault(true, twelve + "; ;", 61);
        String fifty = "takes 1" + repeated("+1", 49);
        fault(true, fifty, -1);
        fault(true, fifty + "+ 1", fifty.length() + 2);
        fault(true, fifty + "+ [at]", fifty.length() + 3);
        fault(true, fifty + ";bars;bars if at", fifty.length() + 14);
        String words = "mirror many 0" + repeated("+0*end 7", 24) + "*0";
        fault(false, words + " times 20;draw", words.length() + 14);
        fault(false, words + " times 20;draw 1", words.length() + 15);
        fault(false, words + " times 1", -1);
        String eight = "takes " + repeated("[", 8) + "1" + repeated("]", 8);
        fault(true, eight, -1);
        fault(true, eight + "+" + eight.substring(6), -1);
        fault(true, "takes [" + eight.substring(6) + "]", 14);
        String mixed = "bars if " + repeated("(", 5) + "1 = " + repeated("[", 3) + "1";
        fault(true, mixed + repeated("]", 3) + repeated(")", 5), -1);
        fault(true, mixed + "+[", mixed.length() + 1);
        fault(true, "bars if " + repeated("(not ", 9), 8 + 5 * 8);
        fault(true, "bars if " + repeated("not ", 95) + "1=1", -1);
        fault(false, "mirror 0 if " + repeated("not ", 94) + "1=1", -1);
    }

    private static void lawsMeaning() {
        promise = 14;
        NeckKnots x = withLaw("takes 5; takes 100 if place = 0; takes 0-5 if place = 1; grips 0-100; grips 50 if at = 1;"
                + "bars if at = 1 and before = 0; takes 1/0 if place = 0; bars if 1/0 = 1");
        x.knot(1, 2, 200);
        due("to the nearest", x.asks(0, 0, 0), 20);
        due("to the nearest", x.asks(0, 1, 0), 0);
        due("told", x.asks(0, 2, 0), 5);
        due("grips", x.asks(0, 2, 1), -9);
        due("not barred by what is broken", x.asks(0, 2, 2), 0);
        x.lay(0, 0);
        due("grips", x.asks(0, 2, 1), 9);
        due("barred", x.asks(0, 2, 2), 1);
        due("knot", x.asks(1, 2, 0), -1000);
        due("knot", x.asks(-1, 2, 0), -1000);
        due("place", x.asks(0, -1, 0), -1000);
        due("place", x.asks(0, 3, 0), -1000);
        due("what", x.asks(0, 2, 3), -1000);
        due("what", x.asks(0, 2, -1), -1000);
        due("status is not touched", x.status(), 0);
        NeckKnots y = new NeckKnots();
        y.knot(0, 9, 200);
        y.knot(0, 1, 200);
        due("without a law", y.asks(0, 1, 0), 11);
        due("without a law", y.asks(0, 1, 1), 1);
        due("without a law", y.asks(0, 1, 2), 0);
        for (int i = 0; i < 12; i++) {
            due("asks on", y.asks(1, 0, 0), 3);
            y.lay(1, i % 2);
        }
        due("12 are laid", y.asks(1, 0, 0), -1000);
        reckoning();
    }

    private static int takes(String sum) {
        NeckKnots x = withLaw("takes 20;takes " + sum);
        x.knot(1, 2, 200);
        lay(x, 0, 2);
        return x.asks(0, 1, 0);
    }

    private static int so(String test) {
        NeckKnots x = withLaw("takes 20;takes 7;takes 3 if " + test);
        x.knot(1, 2, 200);
        return x.asks(0, 1, 0) == 3 ? 1 : 0;
    }

    private static void reckoning() {
        due("words", takes("place*1"), 1);
        due("side of the second move of a knot that starts in", takes("side+5"), 5);
        due("at", takes("at+5"), 6);
        due("before", takes("before+5"), 7);
        due("thick", takes("thick+5"), 7);
        due("mood", takes("mood+5"), 5);
        due("from the left", takes("10-3-2"), 5);
        due("from the left", takes("100/10/5"), 2);
        due("products first", takes("1+2*3"), 7);
        due("products first", takes("2*3+1"), 7);
        due("brackets", takes("[1+2]*3"), 9);
        due("cut towards 0", takes("10+[0-7]/2"), 7);
        due("what is left then", takes("10+[0-7]%2"), 9);
        due("what is left then", takes("10+7%[0-2]"), 11);
        due("divided by 0", takes("1/[1-1]"), 20);
        due("divided by 0", takes("1%0"), 20);
        due("as far as can be", takes("1000*1000*1000/1000/1000/100"), 10);
        due("too far", takes("[1000*1000*1000+1]*0"), 20);
        due("too far down", takes("[0-1000*1000*1000-1]*0"), 20);
        due("as far down as can be", takes("[0-1000*1000*1000]*0"), 0);
        due("so", so("1 < 2"), 1);
        due("so", so("2 < 2"), 0);
        due("so", so("2 > 1"), 1);
        due("so", so("2 > 2"), 0);
        due("so", so("2 = 2"), 1);
        due("so", so("not 2 = 2"), 0);
        due("so", so("not not 2 = 2"), 1);
        due("so", so("not 1 = 2 and 1 = 2"), 0);
        due("so", so("not (1 = 2 and 1 = 2)"), 1);
        due("and ahead of or", so("1 = 1 or 1 = 1 and 1 = 2"), 1);
        due("and ahead of or", so("(1 = 1 or 1 = 1) and 1 = 2"), 0);
        due("so", so("1 = 2 or 1 = 2 or 1 = 1"), 1);
        due("not asked", so("1 = 1 or 1/0 = 1"), 1);
        due("not asked", so("not (1 = 2 and 1/0 = 1)"), 1);
        due("asked", so("1 = 2 or 1/0 = 1"), 0);
        due("asked", so("not (1 = 1 and 1/0 = 1)"), 0);
        due("broken, though so behind", so("1/0 = 1 or 1 = 1"), 0);
        due("broken, though not so behind", so("not (1/0 = 1 and 1 = 2)"), 0);
        due("not broken", so("not 1/0 = 1"), 0);
        due("still not asked", so("1 = 2 and 1/0 = 1 or 1 = 1"), 1);
        due("still not asked", so("1 = 2 and 1/0 = 1 and 1/0 = 1 or 1 = 1 or 1/0 = 1"), 1);
    }

    private static void orders() {
        promise = 10;
        NeckKnots x = new NeckKnots();
        x.knot(0, 1, 200);
        x.knot(0, 1, 10);
        refused(x, "empty", x.orders(), -6);
        due("fault", x.fault(), 0);
        due("none is run", Texts.orders(x, "lay 0 on 0 if 1 = 2; lay 0 on 9 if 1/0 = 1"), 0);
        due("status", x.status(), 0);
        due("done, latest, knots, many, end, cloth", Texts.orders(x, "lay 2 on 0 if done = 0 and latest + 1 = 0 and knots = 2;"
                + "lay 1 on 0 if done = 1 and latest = 1 and many 0 = 1 and end 0 = 2 and cloth 0 = 197;"
                + "mirror 0 if latest = 2 and end 0 = 1; mirror 1 if latest = 2 and end 0 = 0;"
                + "mirror 1 if latest = 0 and many 1 = 0"), 5);
        due("end, cloth without", Texts.orders(x, "mirror 1 if end 1 + 1 = 0 and cloth 1 = 10;"
                + "mirror 1 if many 2 + 1 = 0 and end 2 + 1 = 0 and cloth 7 + 1 = 0"), 2);
        due("moves", x.of(0, 3), 2);
        due("each time anew", Texts.orders(x, "lay [end 0 + 1] % 3 on 0 times 20 if many 0 < 7"), 5);
        due("moves", x.of(0, 3), 7);
        int[] seven = {2, 0, 1, 2, 0, 1, 2};
        for (int k = 0; k < 7; k++) {
            due("place", x.of(0, 12 + k), seven[k]);
        }
        due("through, draw", Texts.orders(x, "through 0; draw 0 times 2"), 3);
        due("moves", x.of(0, 3), 6);
        promise = 12;
        int[] ahead = new int[20];
        for (int i = 0; i < ahead.length; i++) {
            ahead[i] = x.of(0, i);
        }
        int undone = x.count(4);
        refused(x, "cloth of 10 is enough for 3", Texts.orders(x, "mirror 0 times 20; draw 0; lay 0 on 1; lay 1 on 1; lay 0 on 1; lay 1 on 1"), -3);
        due("stopped", x.stopped(), 5);
        due("fault", x.fault(), -1);
        for (int i = 0; i < ahead.length; i++) {
            due("as it was", x.of(0, i), ahead[i]);
        }
        due("as it was", x.of(1, 3), 0);
        due("as it was", x.count(4), undone);
        due("undo as it was", x.undo(), 2);
        due("undo as it was", x.of(0, 3), 7);
        String[] bad = {"lay 3 on 0", "lay 0 on 2", "lay 0-1 on 0", "through 1", "through 0-1", "draw 1", "mirror 2", "mirror 1/0",
            "lay 1/0 on 1", "lay 0 on 1%0", "mirror 1000*1000*1000"};
        for (String b : bad) {
            refused(x, b, Texts.orders(x, "mirror 0;" + b), -3);
            due("stopped by " + b, x.stopped(), 1);
        }
        due("one call, one refusal", x.count(8), 1 + bad.length);
        due("none of the others", x.count(6) + x.count(7), 0);
        due("stopped no more", Texts.orders(x, "mirror 0"), 1);
        due("stopped no more", x.stopped(), -1);
        Texts.orders(x, "draw 1");
        due("stopped", x.stopped(), 0);
        Texts.orders(x, "draw");
        due("a text with a fault ran none", x.stopped(), -1);
        Texts.orders(x, "draw 1");
        x.back(0);
        Texts.law(x, "bars");
        due("law() leaves it", x.stopped(), 0);
    }

    private static void force() {
        promise = 13;
        NeckKnots x = new NeckKnots();
        refused(x, "force(0)", x.force(0), -2);
        due("none", x.force(-1), -1);
        due("status behind -1 that is no refusal", x.status(), 0);
        due("count(6)", x.count(6), 0);
        Texts.law(x, "takes 1");
        Texts.law(x, "takes 2");
        due("force(1)", x.force(1), -1);
        due("status", x.status(), 0);
        x.knot(0, 1, 9);
        due("asks", x.asks(0, 0, 0), 2);
        due("force(0)", x.force(0), 1);
        due("asks", x.asks(0, 0, 0), 1);
        refused(x, "force(2)", x.force(2), -2);
        refused(x, "force(-2)", x.force(-2), -2);
        due("count(11)", x.count(11), 0);
        due("force(NONE)", x.force(-1), 0);
        due("count(11)", x.count(11), -1);
        due("asks", x.asks(0, 0, 0), 3);
    }

    private static void lay() {
        promise = 15;
        NeckKnots x = new NeckKnots();
        refused(x, "-1 ahead of -2", x.lay(0, 3), -1);
        refused(x, "-1", x.lay(0, -1), -1);
        refused(x, "-2", x.lay(0, 0), -2);
        refused(x, "-2", x.lay(-1, 0), -2);
        x.knot(0, 1, 8);
        due("lay", x.lay(0, 1), 1);
        refused(x, "the same place", x.lay(0, 1), -3);
        due("lay", x.lay(0, 0), 2);
        refused(x, "cloth", x.lay(0, 1), -3);
        x.knot(0, 1, 9);
        lay(x, 1, 0, 1);
        due("just enough cloth", x.lay(1, 2), 3);
        x.through(1);
        refused(x, "through", x.lay(1, 0), -3);
        x.knot(0, 1, 37);
        for (int i = 0; i < 12; i++) {
            due("lay", x.lay(2, i % 2), i + 1);
        }
        refused(x, "-5 ahead of cloth", x.lay(2, 2), -5);
        refused(x, "the same place ahead of -5", x.lay(2, 1), -3);
        NeckKnots y = withLaw("bars if place = 2; takes 0");
        y.knot(0, 1, 1);
        refused(y, "barred", y.lay(0, 2), -3);
        for (int i = 0; i < 12; i++) {
            y.lay(0, i % 2);
        }
        refused(y, "-5 ahead of barred", y.lay(0, 2), -5);
        NeckKnots z = new NeckKnots();
        z.knot(1, 1, 200);
        lay(z, 0, 0, 2, 0, 1, 0, 2, 1, 0, 1, 0, 1, 2);
        due("through with 12", z.through(0), 12);
        refused(z, "through ahead of -5", z.lay(0, 0), -3);
        Texts.law(z, "takes 20");
        z.knot(0, 1, 30);
        due("cheap", z.lay(1, 0), 1);
        z.force(0);
        refused(z, "all moves by the law of now", z.lay(1, 1), -3);
        due("cloth can be overdrawn by a law", Texts.orders(z, "mirror 1 if cloth 1 = 10"), 1);
    }

    private static void through() {
        promise = 16;
        NeckKnots x = new NeckKnots();
        refused(x, "-2", x.through(0), -2);
        refused(x, "-2", x.through(-1), -2);
        int[][] bad = {{}, {2}, {0, 2}, {0, 1, 0}, {2, 0, 2}, {2, 1, 2}};
        for (int i = 0; i < bad.length; i++) {
            x.knot((bad[i].length + 1) % 2, 1, 200);
            lay(x, i, bad[i]);
            refused(x, "through " + i, x.through(i), -3);
        }
        x.knot(1, 1, 200);
        lay(x, 6, 0, 1, 2);
        refused(x, "in", x.through(6), -3);
        x.knot(0, 1, 200);
        lay(x, 7, 1, 0, 2);
        due("through", x.through(7), 3);
        due("status", x.status(), 0);
        refused(x, "through already", x.through(7), -3);
        promise = 17;
        refused(x, "-2", x.draw(8), -2);
        refused(x, "-2", x.draw(-1), -2);
        refused(x, "no move", x.draw(0), -3);
        due("not through any more", x.draw(7), 3);
        due("through", x.of(7, 4), 0);
        due("draw", x.draw(7), 2);
        due("draw", x.draw(7), 1);
        due("draw", x.draw(7), 0);
        refused(x, "no move", x.draw(7), -3);
        promise = 18;
        refused(x, "-2", x.mirror(8), -2);
        refused(x, "-2", x.mirror(-1), -2);
        due("no move", x.mirror(0), 0);
        due("status", x.status(), 0);
        due("mirror", x.mirror(6), 3);
        due("place", x.of(6, 12), 1);
        due("place", x.of(6, 13), 0);
        due("place", x.of(6, 14), 2);
        NeckKnots y = new NeckKnots();
        Texts.law(y, "bars if at = 0 and place = 1; takes 20");
        y.knot(0, 1, 9);
        lay(y, 0, 0, 1, 2);
        y.through(0);
        y.force(0);
        due("whatever is barred, cloth aside", y.mirror(0), 3);
        due("through still", y.of(0, 4), 1);
    }

    private static void undo() {
        promise = 19;
        NeckKnots x = new NeckKnots();
        refused(x, "nothing", x.undo(), -3);
        x.knot(0, 1, 200);
        refused(x, "knot() can't be undone", x.undo(), -3);
        lay(x, 0, 0, 1, 2);
        x.through(0);
        x.mirror(0);
        x.draw(0);
        x.draw(0);
        due("to undo", x.count(4), 7);
        due("draw", x.undo(), 2);
        due("the place is there again", x.of(0, 14), 2);
        due("draw", x.undo(), 2);
        due("through again", x.of(0, 4), 1);
        due("mirror", x.undo(), 3);
        due("place", x.of(0, 12), 0);
        due("through", x.undo(), 1);
        due("through", x.of(0, 4), 0);
        due("lay", x.undo(), 0);
        due("moves", x.of(0, 3), 2);
        due("status", x.status(), 0);
        due("to undo", x.count(4), 2);
        x.lay(0, 1);
        refused(x, "a refused knot() leaves it", x.knot(2, 1, 1), -1);
        x.row();
        x.terms(0, 10);
        due("refused ones leave it", x.count(4), 2);
        x.force(-1);
        x.boy(3);
        x.sight(1, 1);
        x.image(0);
        due("others leave it", x.count(4), 2);
        x.terms(0, 0);
        due("terms()", x.count(4), 0);
        x.lay(0, 0);
        Texts.row(x, 9);
        due("row() that has lint alone", x.count(4), 0);
        x.lay(0, 2);
        x.knot(0, 1, 1);
        due("knot()", x.count(4), 0);
        x.lay(0, 1);
        x.back(0);
        due("back()", x.count(4), 0);
        sixteen();
    }

    private static void sixteen() {
        NeckKnots x = new NeckKnots();
        x.knot(0, 1, 200);
        lay(x, 0, 0, 1, 2);
        Texts.orders(x, "mirror 0 times 14");
        due("16 are kept", x.count(4), 16);
        for (int i = 0; i < 14; i++) {
            due("mirror", x.undo(), 3);
        }
        due("lay", x.undo(), 0);
        due("lay", x.undo(), 0);
        refused(x, "no more", x.undo(), -3);
        due("the first lay stands", x.of(0, 3), 1);
        NeckKnots y = new NeckKnots();
        Texts.law(y, "bars; takes 20");
        y.knot(0, 1, 3);
        y.lay(0, 0);
        y.draw(0);
        y.force(0);
        due("undone whatever the law", y.undo(), 2);
        due("moves", y.of(0, 3), 1);
    }

    private static void front() {
        promise = 20;
        NeckKnots x = new NeckKnots();
        due("no such knot", x.front(0, 0), -1);
        x.knot(0, 1, 200);
        due("no moves", x.front(0, 0), -1);
        lay(x, 0, 0, 1, 2, 0, 1, 0, 2, 1);
        // out: move 0 left, 2 centre, 4 right, 6 centre
        int[] due = {-1, 2, 1, 0, -1};
        for (int i = -1; i <= 3; i++) {
            due("front(0, " + i + ")", x.front(0, i), due[i + 1]);
        }
        x.knot(1, 1, 200);
        lay(x, 1, 0);
        due("in alone", x.front(1, 0), -1);
        lay(x, 1, 1);
        due("out", x.front(1, 0), 1);
        due("one alone", x.front(1, 1), -1);
        due("far", x.front(0, Integer.MAX_VALUE), -1);
        due("far", x.front(0, Integer.MIN_VALUE), -1);
        due("no such knot", x.front(-1, 0), -1);
    }

    private static void words() {
        promise = 21;
        NeckKnots x = new NeckKnots();
        for (int n = 3; n <= 12; n++) {
            due("ways(" + n + ")", x.ways(n, -1), 1 << (n - 2));
            int all = 0;
            for (int c = 0; c <= 12; c++) {
                all += x.ways(n, c);
            }
            due("by centres", all, 1 << (n - 2));
        }
        due("without a centre", x.ways(5, 0), 0);
        due("other numbers", x.ways(5, -2) + x.ways(5, 13) + x.ways(5, Integer.MAX_VALUE), 0);
        due("n", x.ways(2, -1), -1);
        due("n", x.ways(13, -1), -1);
        due("n", x.ways(Integer.MIN_VALUE, -1), -1);
        NeckKnots y = withLaw("bars if side = 1 and place = 2; bars if thick = 5");
        due("barred words", y.ways(4, -1), 2);
        due("barred words", y.ways(5, -1), 4);
        y.terms(2, 5);
        due("thick on paper", y.ways(5, -1), 0);
        y.terms(2, 6);
        due("thick on paper", y.ways(5, -1), 4);
        y.force(-1);
        due("no law", y.ways(5, -1), 8);
        promise = 22;
        int[][] four = {{0, 1, 0, 2}, {1, 0, 1, 2}, {2, 0, 1, 2}, {2, 1, 0, 2}};
        for (int i = -1; i <= 4; i++) {
            for (int k = -1; k <= 4; k++) {
                boolean there = i >= 0 && i < 4 && k >= 0 && k < 4;
                due("word(4, " + i + ", " + k + ")", x.word(4, i, k), there ? four[i][k] : -1);
            }
        }
        due("n", x.word(2, 0, 0), -1);
        due("n", x.word(13, 0, 0), -1);
        due("far", x.word(12, 1023, 11), 2);
        due("far", x.word(12, 1024, 11), -1);
        due("far", x.word(12, Integer.MAX_VALUE, 0), -1);
        promise = 23;
        x.knot(0, 1, 200);
        due("no word", x.rank(0), -1);
        lay(x, 0, 2, 1);
        due("no word", x.rank(0), -1);
        lay(x, 0, 0, 2);
        due("start aside", x.rank(0), 3);
        due("though it can't be put through", x.through(0), -3);
        lay(x, 0, 0);
        due("not proper", x.rank(0), -1);
        due("no such knot", x.rank(1), -1);
        due("no such knot", x.rank(-1), -1);
        Texts.law(x, "bars if before = 0 and at = 1");
        x.force(0);
        x.draw(0);
        due("barred ones are not counted", x.rank(0), 2);
        Texts.law(x, "bars if place = 0 and at = 2");
        x.force(1);
        due("barred itself", x.rank(0), -1);
    }

    private static void best() {
        promise = 24;
        NeckKnots x = new NeckKnots();
        due("cloth", x.best(0, 0), -1);
        due("cloth", x.best(201, 0), -1);
        due("too little", x.best(11, 0), -1);
        due("just enough", x.best(12, 0), 3);
        due("lean", x.best(12, 1), 0);
        due("takes", x.best(12, 3), 12);
        due("place", x.best(12, 6), 2);
        due("place", x.best(12, 7), -1);
        due("what", x.best(12, -1), -1);
        due("what", x.best(12, Integer.MAX_VALUE), -1);
        due("most twists", x.best(200, 2), 8);
        due("fewest moves", x.best(200, 0), 11);
        x.terms(1, 12);
        due("need", x.best(200, 0), 12);
        x.terms(1, 13);
        due("need", x.best(200, 0), -1);
        x.terms(1, 3);
        x.terms(2, 9);
        due("thick", x.best(200, 3), 121);
        NeckKnots y = withLaw("takes 1; grips 9; bars if at > 2 and place = 0; bars if at > 2 and place = 1");
        due("the first of equals", y.best(200, 0), 3);
        due("the first of equals", y.best(200, 4), 0);
        promise = 25;
        NeckKnots z = new NeckKnots();
        z.knot(0, 1, 200);
        due("none of as many", z.change(0, 0), -1);
        lay(z, 0, 2, 1);
        due("none of as many", z.change(0, 0), -1);
        lay(z, 0, 2);
        due("unlike", z.change(0, 0), 1);
        due("place", z.change(0, 1), 0);
        due("place", z.change(0, 2), 1);
        due("place", z.change(0, 3), 2);
        due("place", z.change(0, 4), -1);
        due("what", z.change(0, -1), -1);
        due("knot", z.change(1, 0), -1);
        due("knot", z.change(-1, 0), -1);
        lay(z, 0, 1, 0, 2);
        due("proper already", z.change(0, 0), 0);
        due("proper already", z.change(0, 1), 2);
        Texts.law(z, "bars if at = 0");
        z.force(0);
        due("no proper word", z.change(0, 0), -1);
        due("no proper word", z.change(0, 1), -1);
        promise = 26;
        NeckKnots w = new NeckKnots();
        due("fronts of 3", w.alike(3, 0), 2);
        due("fronts of 3", w.alike(3, 1), 1);
        due("fronts of 5", w.alike(5, 0), 4);
        due("fronts of 12", w.alike(12, 0), 4);
        due("commonest of 5", w.alike(5, 1), 3);
        due("n", w.alike(2, 0), -1);
        due("n", w.alike(13, 0), -1);
        due("what", w.alike(4, 2), -1);
        due("what", w.alike(4, -1), -1);
        Texts.law(w, "bars");
        w.force(0);
        due("no words", w.alike(4, 0), 0);
        due("no words", w.alike(4, 1), 0);
    }

    private static void sights() {
        promise = 27;
        NeckKnots x = new NeckKnots();
        refused(x, "move", x.sight(-1, 0), -1);
        refused(x, "move", x.sight(12, 0), -1);
        refused(x, "place", x.sight(0, -1), -1);
        refused(x, "place", x.sight(0, 3), -1);
        for (int i = 0; i < 12; i++) {
            due("sight", x.sight(11, 2), i + 1);
        }
        due("status", x.status(), 0);
        refused(x, "a 13th", x.sight(0, 0), -5);
        refused(x, "-1 ahead of -5", x.sight(12, 0), -1);
        promise = 28;
        due("forget", x.forget(), 12);
        due("sights", x.count(2), 0);
        due("forget", x.forget(), 0);
        due("status stays", x.status(), -1);
        promise = 29;
        due("all fit", x.fits(12, 0, -1, 0), 1024);
        x.sight(11, 0);
        due("of moves they have", x.fits(12, 0, -1, 0), 0);
        due("of moves they have", x.fits(11, 0, -1, 99), 512);
        x.sight(0, 0);
        due("words that begin on the left", x.fits(4, 0, -1, 0), 1);
        due("the word", x.fits(4, 0, 0, 0), 0);
        due("the word", x.fits(4, 0, 0, 3), 2);
        due("the word", x.fits(4, 0, 0, 4), -1);
        due("the word", x.fits(4, 0, 0, -1), -1);
        due("no second", x.fits(4, 0, 1, 0), -1);
        due("in a mirror", x.fits(4, 1, -1, 0), 1);
        due("as the word has it", x.fits(4, 1, 0, 0), 1);
        due("i", x.fits(4, 0, -2, 0), -1);
        due("n", x.fits(2, 0, -1, 0), -1);
        due("n", x.fits(13, 0, -1, 0), -1);
        due("mirror", x.fits(4, 2, -1, 0), -1);
        due("mirror", x.fits(4, -1, -1, 0), -1);
        x.sight(0, 1);
        due("sights that are against one another", x.fits(4, 0, -1, 0), 0);
        promise = 30;
        due("none fits", x.look(4, 0), -1);
        x.forget();
        due("look", x.look(3, 0), 0);
        due("look once more", x.look(3, 0), 0);
        due("n", x.look(2, 0), -1);
        due("n", x.look(13, 0), -1);
        due("mirror", x.look(4, 2), -1);
        due("mirror", x.look(4, -1), -1);
        x.sight(0, 2);
        due("the first is known", x.look(4, 0), 1);
        x.sight(1, 1);
        due("all is known: the lowest", x.look(4, 0), 0);
        due("a mirror", x.look(4, 1), 0);
    }

    private static void boys() {
        promise = 31;
        NeckKnots x = new NeckKnots();
        refused(x, "boy", x.boy(0), -1);
        refused(x, "boy", x.boy(201), -1);
        for (int i = 0; i < 6; i++) {
            due("boy", x.boy(i == 0 ? 1 : 200), i);
        }
        due("status", x.status(), 0);
        refused(x, "a 7th", x.boy(1), -5);
        refused(x, "-1 ahead of -5", x.boy(0), -1);
        promise = 33;
        due("nothing to wear", x.wear(0), 0);
        for (int b = 1; b <= 6; b++) {
            due("none", x.wear(b), 100);
        }
        due("what", x.wear(7), -1);
        due("what", x.wear(-1), -1);
        promise = 32;
        due("home", x.home(), 6);
        due("boys", x.count(1), 0);
        due("home", x.home(), 0);
        due("status stays", x.status(), -1);
        promise = 33;
        NeckKnots y = new NeckKnots();
        int[] knots = {tied(y, 0, 1, 0, 1, 2), tied(y, 0, 2, 0, 1, 2), tied(y, 0, 1, 1, 0, 2), tied(y, 0, 1, 0, 1, 0, 1, 2)};
        due("knots", knots[3], 3);
        y.boy(9);
        due("the first", y.wear(1), 0);
        y.boy(12);
        due("two", y.wear(0), 2);
        due("the first", y.wear(1), 0);
        due("not of one front", y.wear(2), 2);
        y.boy(200);
        due("fronts are the same but two", y.wear(0), 2);
        due("row", y.wear(3), 100);
        y.home();
        y.boy(8);
        y.boy(200);
        due("too little cloth", y.wear(1), 100);
        due("cloth", y.wear(2), 0);
        y.draw(0);
        due("not through", y.wear(2), 1);
        y.terms(1, 4);
        due("does not hold", y.wear(2), 3);
        NeckKnots z = new NeckKnots();
        tied(z, 0, 1, 1, 0, 2);
        tied(z, 0, 9, 0, 1, 2);
        z.boy(200);
        z.boy(10);
        due("as many as can be", z.wear(0), 2);
        due("as many as can be", z.wear(1), 1);
        due("as many as can be", z.wear(2), 0);
    }

    private static void hands() {
        promise = 34;
        NeckKnots x = new NeckKnots();
        due("ahead of any", x.drawn(0), -1);
        due("ahead of any", x.drawn(2), -1);
        int[][] bad = {{-1, 1, 3}, {1000001, 1, 3}, {0, 0, 3}, {0, 101, 3}, {0, 1, 2}, {0, 1, 13}};
        for (int[] b : bad) {
            refused(x, "hands", x.hands(b[0], b[1], b[2]), -1);
        }
        due("none yet", x.drawn(0), -1);
        due("the widest", x.hands(1000000, 100, 12), new SlowKnots().hands(1000000, 100, 12));
        due("status", x.status(), 0);
        promise = 35;
        due("last place", x.drawn(13) >= 0 ? 1 : 0, 1);
        due("beyond", x.drawn(14), -1);
        due("what", x.drawn(-1), -1);
        due("what", x.drawn(Integer.MAX_VALUE), -1);
        handsByHand();
        NeckKnots y = withLaw("bars if at = 0");
        due("none is proper", y.hands(5, 100, 3), 0);
        due("none is strong", y.drawn(0), 0);
        due("no lean", y.drawn(1), -1);
        y.force(-1);
        y.image(0);
        due("proper ones", y.hands(5, 100, 4) > 0 ? 1 : 0, 1);
        int lean = y.drawn(1);
        int strong = y.drawn(0);
        due("all of 4 moves grip 4", strong, y.hands(5, 100, 4));
        refused(y, "hands", y.hands(5, 100, 2), -1);
        due("a refused one leaves it", y.drawn(1), lean);
        y.back(0);
        due("back() leaves it", y.drawn(0), strong);
        y.terms(1, 5);
        due("they were judged when they were drawn", y.drawn(0), strong);
        y.hands(5, 100, 4);
        due("need", y.drawn(0), 0);
    }

    private static void handsByHand() {
        long s = 77;
        int proper = 0;
        int lean = -1;
        int[] last = new int[5];
        for (int i = 0; i < 100; i++) {
            for (int k = 0; k < 5; k++) {
                s = (s * 1103 + 12345) % 1000003;
                int roll = (int) (s % (k == 0 ? 3 : 2));
                last[k] = k > 0 && roll >= last[k - 1] ? roll + 1 : roll;
            }
            if (last[4] == 2 && last[3] != 2 && last[2] != 2) {
                proper++;
                int l = 0;
                for (int place : last) {
                    l += place == 0 ? 1 : place == 1 ? -1 : 0;
                }
                lean = Math.max(lean, Math.abs(l));
            }
        }
        NeckKnots x = new NeckKnots();
        due("hands", x.hands(77, 100, 5), proper);
        due("strong", x.drawn(0), proper);
        due("lean", x.drawn(1), lean);
        for (int k = 0; k < 5; k++) {
            due("place", x.drawn(2 + k), last[k]);
        }
    }

    private static void images() {
        promise = 36;
        NeckKnots x = new NeckKnots();
        refused(x, "image", x.image(-1), -1);
        refused(x, "image", x.image(2), -1);
        promise = 37;
        refused(x, "back", x.back(-1), -1);
        refused(x, "back", x.back(2), -1);
        refused(x, "back", x.back(0), -2);
        Texts.law(x, "takes 7");
        x.force(0);
        x.knot(0, 1, 200);
        lay(x, 0, 0, 1, 2);
        x.through(0);
        x.boy(50);
        x.sight(2, 2);
        x.terms(0, 4);
        x.terms(1, 5);
        x.terms(2, 6);
        due("image", x.image(0), 0);
        due("status", x.status(), 0);
        due("the other one", x.back(1), -2);
        x.draw(0);
        x.draw(0);
        x.lay(0, 0);
        x.knot(1, 2, 3);
        x.home();
        x.boy(1);
        x.boy(2);
        x.forget();
        x.terms(0, 1);
        x.terms(1, 1);
        x.terms(2, 1);
        Texts.law(x, "takes 8");
        x.force(1);
        Texts.orders(x, "draw 0; draw 9");
        Texts.row(x, 9);
        Texts.law(x, "takes ?");
        x.hands(3, 10, 3);
        int[] drawn = {x.drawn(0), x.drawn(1), x.drawn(2)};
        x.image(1);
        x.feed(1, 2, 3, 4, 5);
        x.draw(0);
        int refused = x.count(6) + x.count(7) + x.count(8) + x.count(9) + x.count(10);
        due("back", x.back(0), 0);
        due("refusals stay", x.count(6) + x.count(7) + x.count(8) + x.count(9) + x.count(10), refused);
        int[] counts = {1, 1, 1, 1, 0, 20};
        for (int what = 0; what < counts.length; what++) {
            due("count(" + what + ")", x.count(what), counts[what]);
        }
        due("force", x.count(11), 0);
        due("mood", x.count(12), 4);
        due("need", x.count(13), 5);
        due("thick", x.count(14), 6);
        due("through", x.of(0, 4), 1);
        due("place", x.of(0, 14), 2);
        due("takes", x.of(0, 5), 21);
        due("boy", x.wear(0), 0);
        due("sight", x.fits(3, 0, -1, 0), 2);
        due("fault stays", x.fault(), 6);
        due("lint stays", x.lint(), 1);
        due("stopped stays", x.stopped(), 1);
        for (int what = 0; what < 3; what++) {
            due("hands stay", x.drawn(what), drawn[what]);
        }
        x.mirror(0);
        Texts.law(x, "takes 9");
        due("images stay", x.back(1), 0);
        due("laws", x.count(3), 2);
        due("takes", x.asks(0, 1, 0), 8);
        due("images stay", x.back(0), 0);
        due("place", x.of(0, 12), 0);
        due("the law of then", x.asks(0, 1, 0), 7);
        x.knot(0, 1, 7);
        x.image(0);
        due("kept anew", x.back(0), 0);
        due("knots", x.count(0), 2);
    }

    private static void counts() {
        promise = 38;
        NeckKnots x = new NeckKnots();
        due("what", x.count(-1), -1);
        due("what", x.count(15), -1);
        due("what", x.count(Integer.MIN_VALUE), -1);
        x.knot(2, 1, 1);
        x.boy(0);
        x.back(0);
        x.undo();
        x.undo();
        x.undo();
        x.law();
        x.row();
        x.orders();
        x.law();
        for (int i = 0; i < 13; i++) {
            x.sight(0, 0);
        }
        int[] refusals = {2, 1, 3, 1, 4};
        for (int i = 0; i < 5; i++) {
            due("count(" + (6 + i) + ")", x.count(6 + i), refusals[i]);
        }
        x.ways(1, 1);
        x.end(5);
        x.best(0, 0);
        due("none that is no refusal", x.count(6), 2);
        due("sights", x.count(2), 12);
        promise = 39;
        due("status of the latest", x.status(), -5);
        x.forget();
        x.ways(1, 1);
        x.home();
        x.feed(0, 0, 0, 0, 0);
        x.end(-1);
        x.of(9, 9);
        due("others leave it", x.status(), -5);
        x.law();
        due("law", x.status(), -6);
        x.image(0);
        due("image", x.status(), 0);
        x.orders();
        due("orders", x.status(), -6);
        x.back(0);
        due("back", x.status(), 0);
    }

    /** Things that few runs would show. */
    private static void corners() {
        promise = 7;
        NeckKnots x = new NeckKnots();
        Texts.row(x, 0, 1, 5);
        x.feed(0x00010500, 0, 0, 0, 0);
        x.end(2);
        due("what was behind the tape's end is not read", x.row(), 0);
        promise = 11;
        fault(true, "barsz", 0);
        fault(false, "lay 1", 5);
        fault(false, "lay 1;draw 0", 5);
        fault(false, "lay 1 if 1 = 1", 6);
        fault(false, "mirror 0 times", 14);
        fault(false, "mirror 0 times;mirror 0", 14);
        fault(false, "mirror 0 times if 1 = 1", 15);
        promise = 14;
        NeckKnots y = withLaw("takes 5 if before = 0 - 1; takes 7 if before = 0; grips mood; bars if mood = 2 and place = 2");
        y.knot(0, 1, 200);
        lay(y, 0, 0, 1);
        due("no place ahead of the first", y.of(0, 5), 12);
        due("broken test: as if it were not there", y.ways(3, -1), 2);
        y.terms(0, 2);
        due("mood on paper", y.ways(3, -1), 0);
        promise = 38;
        due("an answer 0 is no refusal", x.count(10), 0);
        x.mirror(0);
        x.draw(0);
        x.lay(0, 0);
        x.undo();
        due("an answer 0 is no refusal", x.count(6) + x.count(7) + x.count(9) + x.count(10), 0);
        due("but draw() of no move is", x.count(8), 1);
    }

    private static void undoneInOrder() {
        promise = 19;
        NeckKnots x = new NeckKnots();
        x.knot(0, 1, 200);
        x.knot(0, 1, 200);
        lay(x, 0, 0);
        lay(x, 1, 1, 2);
        x.draw(1);
        for (int i = 0; i < 14; i++) {
            x.mirror(0);
        }
        for (int i = 0; i < 14; i++) {
            x.undo();
        }
        due("the 15th", x.undo(), 2);
        due("of that knot", x.of(1, 13), 2);
        due("the 16th", x.undo(), 0);
        due("of that knot", x.of(1, 3), 1);
        due("the 17th is gone", x.undo(), -3);
    }

    private static void paperCorners() {
        promise = 22;
        due("word() first of all", new NeckKnots().word(3, 1, 0), 1);
        NeckKnots x = new NeckKnots();
        x.knot(0, 1, 200);
        lay(x, 0, 1, 0, 2);
        promise = 23;
        due("rank() first of all", x.rank(0), 1);
        promise = 24;
        NeckKnots free = withLaw("takes 0");
        due("cloth of 1", free.best(1, 3), 0);
        due("twists of the best", new NeckKnots().best(20, 2), 2);
        due("lean of the best", new NeckKnots().best(20, 1), 0);
        NeckKnots leaning = withLaw("bars if at = 0 and (side = 0 or not place = 1); takes 5");
        due("lean without sign", leaning.best(20, 1), 1);
        due("its moves", leaning.best(20, 0), 4);
        promise = 25;
        NeckKnots y = new NeckKnots();
        y.knot(0, 1, 200);
        lay(y, 0, 2, 0, 2, 0);
        due("two are unlike", y.change(0, 0), 2);
        due("the first of equals", y.change(0, 1), 2);
        due("the first of equals", y.change(0, 2), 0);
        due("the first of equals", y.change(0, 3), 1);
        y.knot(0, 1, 200);
        lay(y, 1, 2, 0, 2);
        y.knot(0, 1, 200);
        lay(y, 2, 0, 2, 1, 2);
        due("three are as near", y.change(2, 0), 2);
        due("the first of them", y.change(2, 1), 0);
        due("the first of them", y.change(2, 3), 0);
        due("the one that keeps the middle", y.change(1, 1), 1);
        lay(y, 1, 0, 2);
        due("first of 20 012, 20 102 and others", y.change(1, 0), 1);
        due("first of 20 012, 20 102 and others", y.change(1, 3), 1);
        sightCorners();
    }

    private static void sightCorners() {
        promise = 29;
        NeckKnots x = withLaw("bars if at = 0 and place = 1");
        x.sight(4, 1);
        due("a sight of a move that words of 4 have not", x.fits(4, 0, -1, 0), 3);
        x.sight(1, 0);
        due("right", x.fits(4, 0, -1, 0), 1);
        due("in a mirror", x.fits(4, 1, -1, 0), 2);
        due("the second", x.fits(4, 1, 1, 0), 2);
        due("no third", x.fits(4, 1, 2, 0), -1);
        promise = 30;
        x.forget();
        x.sight(0, 1);
        due("none begins on the right", x.look(4, 0), -1);
        due("one does in a mirror", x.look(4, 1), 0);
        x.forget();
        x.sight(0, 2);
        due("look", x.look(4, 0), 1);
        due("look again", x.look(4, 0), 1);
        promise = 34;
        NeckKnots y = new NeckKnots();
        due("seed 0, one word", y.hands(0, 1, 3), 0);
        y.terms(1, 4);
        int proper = y.hands(5, 100, 4);
        due("just the need", y.drawn(0), proper);
    }

    private static void imageCorners() {
        promise = 37;
        NeckKnots x = new NeckKnots();
        tied(x, 0, 1, 0, 1, 2);
        x.image(0);
        x.boy(9);
        x.sight(1, 1);
        Texts.law(x, "takes 3");
        x.force(0);
        x.image(1);
        x.back(0);
        x.boy(1);
        x.sight(2, 0);
        Texts.law(x, "takes 4");
        x.force(0);
        due("the law of then", x.of(0, 5), 12);
        due("too little cloth", x.wear(0), 0);
        due("none fits", x.fits(3, 0, -1, 0), 0);
        x.back(1);
        due("the law of then", x.of(0, 5), 9);
        due("the boy of then", x.wear(0), 1);
        due("the sight of then", x.fits(3, 0, -1, 0), 1);
    }

    public static void main(String[] args) {
        corners();
        undoneInOrder();
        paperCorners();
        imageCorners();
        newObject();
        knot();
        of();
        terms();
        tape();
        row();
        law();
        faults();
        lawsMeaning();
        orders();
        force();
        lay();
        through();
        undo();
        front();
        words();
        best();
        sights();
        boys();
        hands();
        images();
        counts();
        System.out.println(wrong == 0 ? asked + " answers are as due" : wrong + " answers are not as due");
        if (wrong != 0) {
            System.exit(1);
        }
    }
}
