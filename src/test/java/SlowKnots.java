import java.util.ArrayDeque;
import java.util.ArrayList;
import java.util.Arrays;
import java.util.HashMap;
import java.util.List;
import java.util.Map;
import java.util.TreeMap;

/** The document once more, told with other means (trees, lists, all words tried, whole copies) to compare with. */
final class SlowKnots {
    static final int NONE = -1;
    static final int NOTHING = -1000;

    static final class Tie {
        int start;
        int thick;
        int cloth;
        boolean through;
        List<Integer> places = new ArrayList<>();

        Tie copy() {
            Tie t = new Tie();
            t.start = start;
            t.thick = thick;
            t.cloth = cloth;
            t.through = through;
            t.places = new ArrayList<>(places);
            return t;
        }
    }

    static final class State {
        List<Tie> knots = new ArrayList<>();
        List<Integer> boys = new ArrayList<>();
        List<int[]> sights = new ArrayList<>();
        int[] terms = {0, 3, 2};
        List<List<Clause>> laws = new ArrayList<>();
        int force = NONE;

        State copy() {
            State s = new State();
            for (Tie t : knots) {
                s.knots.add(t.copy());
            }
            s.boys.addAll(boys);
            s.sights.addAll(sights);
            s.terms = terms.clone();
            s.laws.addAll(laws);
            s.force = force;
            return s;
        }
    }

    /** What was done, and how the knot was ahead of it. */
    record Undone(int kind, int knot, Tie ahead) {
    }

    static final class Broken extends Exception {
        private static final long serialVersionUID = 1L;
    }

    static final class Fault extends Exception {
        private static final long serialVersionUID = 1L;
        final int place;

        Fault(int place) {
            this.place = place;
        }
    }

    interface Words {
        long value(String word, int k);
    }

    interface Sum {
        long value(Words w) throws Broken;
    }

    interface Test {
        boolean so(Words w) throws Broken;
    }

    static final class Clause {
        String kind;
        Sum first;
        Sum second;
        Test when;
        int times = 1;
    }

    State now = new State();
    final State[] images = new State[2];
    ArrayDeque<Undone> log = new ArrayDeque<>();
    byte[] tape = new byte[0];
    final Map<Integer, Integer> refusals = new HashMap<>();
    int status;
    int fault = NONE;
    int lint;
    int stopped = NONE;
    int handMoves;
    int handStrong;
    int handLean;
    List<Integer> handLast;

    private int refuse(int why) {
        status = why;
        refusals.merge(why, 1, Integer::sum);
        return why;
    }

    private int grant(int answer) {
        status = 0;
        return answer;
    }

    private int judged(int answer) {
        return answer < 0 ? refuse(answer) : grant(answer);
    }

    private Tie tie(long knot) {
        return knot >= 0 && knot < now.knots.size() ? now.knots.get((int) knot) : null;
    }

    // ---- laws ----

    /** takes, grips, barred of a move. */
    private int[] ask(int thick, int start, int at, int before, int place) {
        int[] told = {2 + thick, 1, 0};
        if (now.force == NONE) {
            return told;
        }
        Words w = (word, k) -> switch (word) {
            case "place" -> place;
            case "side" -> at % 2 == 0 ? start : 1 - start;
            case "at" -> at;
            case "before" -> before;
            case "thick" -> thick;
            default -> now.terms[0];
        };
        for (Clause c : now.laws.get(now.force)) {
            try {
                if (c.when != null && !c.when.so(w)) {
                    continue;
                }
                if (c.kind.equals("bars")) {
                    told[2] = 1;
                } else if (c.kind.equals("takes")) {
                    told[0] = (int) Math.max(0, Math.min(20, c.first.value(w)));
                } else {
                    told[1] = (int) Math.max(-9, Math.min(9, c.first.value(w)));
                }
            } catch (Broken b) {
                continue;
            }
        }
        return told;
    }

    private int total(int which, int thick, int start, List<Integer> places) {
        int all = 0;
        for (int at = 0; at < places.size(); at++) {
            all += ask(thick, start, at, at == 0 ? -1 : places.get(at - 1), places.get(at))[which];
        }
        return all;
    }

    private int takes(Tie t) {
        return total(0, t.thick, t.start, t.places);
    }

    private int grip(Tie t) {
        return total(1, t.thick, t.start, t.places);
    }

    // ---- figures ----

    private static boolean throughable(int start, List<Integer> p) {
        int n = p.size();
        if (n < 3 || p.get(n - 1) != 2 || (start + n - 1) % 2 != 0) {
            return false;
        }
        String two = "" + p.get(n - 3) + p.get(n - 2);
        return two.equals("01") || two.equals("10");
    }

    private static int lean(List<Integer> p) {
        return (int) (p.stream().filter(x -> x == 0).count() - p.stream().filter(x -> x == 1).count());
    }

    private static int centres(List<Integer> p) {
        return (int) p.stream().filter(x -> x == 2).count();
    }

    private static List<Boolean> winds(List<Integer> p) {
        List<Boolean> w = new ArrayList<>();
        for (int i = 1; i < p.size(); i++) {
            w.add(List.of("02", "21", "10").contains("" + p.get(i - 1) + p.get(i)));
        }
        return w;
    }

    private static int twists(List<Integer> p) {
        List<Boolean> w = winds(p);
        int n = 0;
        for (int i = 1; i < w.size(); i++) {
            n += w.get(i).equals(w.get(i - 1)) ? 0 : 1;
        }
        return n;
    }

    private static int left(List<Integer> p) {
        List<Boolean> w = winds(p);
        boolean fell = true;
        while (fell) {
            fell = false;
            for (int i = 1; i < w.size() && !fell; i++) {
                if (!w.get(i).equals(w.get(i - 1))) {
                    w.remove(i);
                    w.remove(i - 1);
                    fell = true;
                }
            }
        }
        return w.size();
    }

    private static List<Integer> front(int start, List<Integer> p) {
        TreeMap<Integer, Integer> byLatest = new TreeMap<>();
        for (int place = 0; place < 3; place++) {
            for (int at = p.size() - 1; at >= 0; at--) {
                if (p.get(at) == place && (start + at) % 2 == 0) {
                    byLatest.put(-at, place);
                    break;
                }
            }
        }
        return new ArrayList<>(byLatest.values());
    }

    // ---- words on paper ----

    private static int startOf(int n) {
        return n % 2 == 0 ? 1 : 0;
    }

    private static final Map<Integer, List<List<Integer>>> ALL = new HashMap<>();

    private static List<List<Integer>> all(int n) {
        return ALL.computeIfAbsent(n, SlowKnots::makeAll);
    }

    private static List<List<Integer>> makeAll(int n) {
        List<List<Integer>> found = new ArrayList<>();
        int many = (int) Math.round(Math.pow(3, n));
        for (int code = 0; code < many; code++) {
            Integer[] p = new Integer[n];
            int rest = code;
            boolean ok = true;
            for (int k = n - 1; k >= 0; k--) {
                p[k] = rest % 3;
                rest /= 3;
                ok &= k == n - 1 || !p[k].equals(p[k + 1]);
            }
            if (ok) {
                found.add(List.of(p));
            }
        }
        return found;
    }

    private boolean isProper(List<Integer> p) {
        int n = p.size();
        return throughable(startOf(n), p) && total(2, now.terms[2], startOf(n), p) == 0;
    }

    private List<List<Integer>> proper(int n) {
        return all(n).stream().filter(this::isProper).toList();
    }

    private int paperTakes(List<Integer> p) {
        return total(0, now.terms[2], startOf(p.size()), p);
    }

    private int paperGrip(List<Integer> p) {
        return total(1, now.terms[2], startOf(p.size()), p);
    }

    private static boolean length(int n) {
        return n >= 3 && n <= 12;
    }

    private List<List<Integer>> fitting(int n, int mirror) {
        return proper(n).stream().filter(p -> now.sights.stream().allMatch(s -> {
            if (s[0] >= n) {
                return true;
            }
            int place = p.get(s[0]);
            int seen = mirror == 1 && place < 2 ? 1 - place : place;
            return seen == s[1];
        })).toList();
    }

    // ---- texts ----

    private static final class Parser {
        final List<String> tokens = new ArrayList<>();
        final List<Integer> starts = new ArrayList<>();
        final boolean law;
        int at;
        int parts;

        Parser(byte[] bytes, boolean law) {
            this.law = law;
            String s = new String(bytes, java.nio.charset.StandardCharsets.ISO_8859_1);
            java.util.regex.Matcher m = java.util.regex.Pattern.compile("[a-z]+|[0-9]+|[^ ]", java.util.regex.Pattern.DOTALL).matcher(s);
            while (m.find()) {
                tokens.add(m.group());
                starts.add(m.start());
            }
            tokens.add("");
            starts.add(s.length());
        }

        Fault bad() {
            return new Fault(starts.get(at));
        }

        boolean eat(String token) {
            if (tokens.get(at).equals(token)) {
                at++;
                return true;
            }
            return false;
        }

        void must(String token) throws Fault {
            if (!eat(token)) {
                throw bad();
            }
        }

        int number(int least, int most) throws Fault {
            String t = tokens.get(at);
            if (!t.matches("[0-9]+")) {
                throw bad();
            }
            java.math.BigInteger v = new java.math.BigInteger(t);
            if (v.compareTo(java.math.BigInteger.valueOf(least)) < 0 || v.compareTo(java.math.BigInteger.valueOf(most)) > 0) {
                throw bad();
            }
            at++;
            return v.intValue();
        }

        List<Clause> text() throws Fault {
            List<Clause> found = new ArrayList<>();
            do {
                if (found.size() == 12) {
                    throw bad();
                }
                found.add(clause());
            } while (eat(";"));
            must("");
            return found;
        }

        Clause clause() throws Fault {
            Clause c = new Clause();
            c.kind = tokens.get(at);
            List<String> heads = law ? List.of("takes", "grips", "bars") : List.of("lay", "through", "draw", "mirror");
            if (!heads.contains(c.kind)) {
                throw bad();
            }
            at++;
            if (!c.kind.equals("bars")) {
                c.first = sum(0);
            }
            if (c.kind.equals("lay")) {
                must("on");
                c.second = sum(0);
            }
            if (!law && eat("times")) {
                c.times = number(1, 20);
            }
            if (eat("if")) {
                c.when = test(0);
            }
            return c;
        }

        Test test(int depth) throws Fault {
            List<Test> parts = new ArrayList<>();
            do {
                parts.add(both(depth));
            } while (eat("or"));
            return w -> {
                for (Test t : parts) {
                    if (t.so(w)) {
                        return true;
                    }
                }
                return false;
            };
        }

        Test both(int depth) throws Fault {
            List<Test> parts = new ArrayList<>();
            do {
                parts.add(plain(depth));
            } while (eat("and"));
            return w -> {
                for (Test t : parts) {
                    if (!t.so(w)) {
                        return false;
                    }
                }
                return true;
            };
        }

        Test plain(int depth) throws Fault {
            if (eat("not")) {
                Test t = plain(depth);
                return w -> !t.so(w);
            }
            if (tokens.get(at).equals("(")) {
                if (depth == 8) {
                    throw bad();
                }
                at++;
                Test t = test(depth + 1);
                must(")");
                return t;
            }
            Sum a = sum(depth);
            String sign = tokens.get(at);
            if (!List.of("<", ">", "=").contains(sign)) {
                throw bad();
            }
            at++;
            Sum b = sum(depth);
            return w -> {
                int order = Long.compare(a.value(w), b.value(w));
                return sign.equals("<") ? order < 0 : sign.equals(">") ? order > 0 : order == 0;
            };
        }

        static long near(long v) throws Broken {
            if (Math.abs(v) > 1_000_000_000L) {
                throw new Broken();
            }
            return v;
        }

        Sum sum(int depth) throws Fault {
            Sum all = term(depth);
            while (List.of("+", "-").contains(tokens.get(at))) {
                boolean plus = tokens.get(at++).equals("+");
                Sum a = all;
                Sum b = term(depth);
                all = w -> {
                    long x = a.value(w);
                    long y = b.value(w);
                    return near(plus ? x + y : x - y);
                };
            }
            return all;
        }

        Sum term(int depth) throws Fault {
            Sum all = part(depth);
            while (List.of("*", "/", "%").contains(tokens.get(at))) {
                String sign = tokens.get(at++);
                Sum a = all;
                Sum b = part(depth);
                all = w -> {
                    long x = a.value(w);
                    long y = b.value(w);
                    if (sign.equals("*")) {
                        return near(x * y);
                    }
                    if (y == 0) {
                        throw new Broken();
                    }
                    return sign.equals("/") ? x / y : x % y;
                };
            }
            return all;
        }

        Sum part(int depth) throws Fault {
            String t = tokens.get(at);
            if (t.equals("[")) {
                if (depth == 8) {
                    throw bad();
                }
                at++;
                Sum s = sum(depth + 1);
                must("]");
                return s;
            }
            if (parts == 50) {
                throw bad();
            }
            List<String> words = law ? List.of("place", "side", "at", "before", "thick", "mood")
                    : List.of("knots", "done", "latest", "many", "end", "cloth");
            if (!words.contains(t)) {
                long v = number(0, 1000);
                parts++;
                return w -> v;
            }
            parts++;
            at++;
            int k = List.of("many", "end", "cloth").contains(t) && !law ? number(0, 7) : 0;
            return w -> w.value(t, k);
        }
    }

    // ---- acts ----

    private void note(int kind, long knot) {
        log.addLast(new Undone(kind, (int) knot, tie(knot).copy()));
        if (log.size() > 16) {
            log.removeFirst();
        }
    }

    private int layIt(long knot, long place) {
        if (place < 0 || place > 2) {
            return -1;
        }
        Tie t = tie(knot);
        if (t == null) {
            return -2;
        }
        int n = t.places.size();
        if (t.through || n > 0 && t.places.get(n - 1) == place) {
            return -3;
        }
        if (n == 12) {
            return -5;
        }
        int[] told = ask(t.thick, t.start, n, n == 0 ? -1 : t.places.get(n - 1), (int) place);
        if (told[2] == 1 || takes(t) + told[0] > t.cloth) {
            return -3;
        }
        note(0, knot);
        t.places.add((int) place);
        return n + 1;
    }

    private int throughIt(long knot) {
        Tie t = tie(knot);
        if (t == null) {
            return -2;
        }
        if (t.through || !throughable(t.start, t.places)) {
            return -3;
        }
        note(1, knot);
        t.through = true;
        return t.places.size();
    }

    private int drawIt(long knot) {
        Tie t = tie(knot);
        if (t == null) {
            return -2;
        }
        if (t.places.isEmpty()) {
            return -3;
        }
        note(2, knot);
        if (t.through) {
            t.through = false;
        } else {
            t.places.remove(t.places.size() - 1);
        }
        return t.places.size();
    }

    private int mirrorIt(long knot) {
        Tie t = tie(knot);
        if (t == null) {
            return -2;
        }
        note(3, knot);
        t.places.replaceAll(p -> p == 2 ? 2 : 1 - p);
        return t.places.size();
    }

    // ---- the face ----

    int knot(int start, int thick, int cloth) {
        if (start < 0 || start > 1 || thick < 1 || thick > 9 || cloth < 1 || cloth > 200) {
            return refuse(-1);
        }
        if (now.knots.size() == 8) {
            return refuse(-5);
        }
        addTie(start, thick, cloth);
        log.clear();
        return grant(now.knots.size() - 1);
    }

    private void addTie(int start, int thick, int cloth) {
        Tie t = new Tie();
        t.start = start;
        t.thick = thick;
        t.cloth = cloth;
        now.knots.add(t);
    }

    int of(int knot, int what) {
        Tie t = tie(knot);
        if (t == null || what < 0 || what >= 12 + t.places.size()) {
            return NOTHING;
        }
        int[] told = {t.start, t.thick, t.cloth, t.places.size(), t.through ? 1 : 0, takes(t), grip(t),
            t.through && grip(t) >= now.terms[1] ? 1 : 0, centres(t.places), lean(t.places), twists(t.places), left(t.places)};
        return what < 12 ? told[what] : t.places.get(what - 12);
    }

    int terms(int what, int value) {
        int[] least = {0, 0, 1};
        int[] most = {9, 99, 9};
        if (what < 0 || what > 2 || value < least[what] || value > most[what]) {
            return refuse(-1);
        }
        int was = now.terms[what];
        now.terms[what] = value;
        log.clear();
        return grant(was);
    }

    int feed(int a, int b, int c, int d, int e) {
        if (tape.length + 20 > 400) {
            return NONE;
        }
        java.nio.ByteBuffer more = java.nio.ByteBuffer.allocate(tape.length + 20);
        more.put(tape).putInt(a).putInt(b).putInt(c).putInt(d).putInt(e);
        tape = more.array();
        return tape.length;
    }

    int end(int n) {
        if (n < 0 || n > tape.length) {
            return NONE;
        }
        tape = Arrays.copyOf(tape, n);
        return n;
    }

    private byte[] takeTape() {
        byte[] was = tape;
        tape = new byte[0];
        return was;
    }

    int row() {
        byte[] b = takeTape();
        if (b.length == 0) {
            return refuse(-6);
        }
        lint = 0;
        int came = 0;
        for (int i = 0; i < b.length; i += 3) {
            boolean whole = i + 3 <= b.length;
            int start = b[i] & 255;
            int thick = whole ? b[i + 1] & 255 : 0;
            int cloth = whole ? b[i + 2] & 255 : 0;
            if (whole && start < 2 && thick > 0 && thick < 10 && cloth > 0 && cloth < 201 && now.knots.size() < 8) {
                addTie(start, thick, cloth);
                came++;
            } else {
                lint++;
            }
        }
        log.clear();
        return grant(came);
    }

    int lint() {
        return lint;
    }

    int law() {
        byte[] b = takeTape();
        if (now.laws.size() == 6) {
            return refuse(-5);
        }
        try {
            fault = NONE;
            now.laws.add(new Parser(b, true).text());
            return grant(now.laws.size() - 1);
        } catch (Fault f) {
            fault = f.place;
            return refuse(-6);
        }
    }

    int orders() {
        List<Clause> clauses;
        stopped = NONE;
        try {
            fault = NONE;
            clauses = new Parser(takeTape(), false).text();
        } catch (Fault f) {
            fault = f.place;
            return refuse(-6);
        }
        State ahead = now.copy();
        ArrayDeque<Undone> logAhead = new ArrayDeque<>(log);
        int[] done = {0, -1};
        Words w = (word, k) -> {
            Tie t = tie(k);
            int many = t == null ? -1 : t.places.size();
            return switch (word) {
                case "knots" -> now.knots.size();
                case "done" -> done[0];
                case "latest" -> done[1];
                case "many" -> many;
                case "end" -> many < 1 ? -1 : t.places.get(many - 1);
                default -> t == null ? -1 : t.cloth - takes(t);
            };
        };
        for (int c = 0; c < clauses.size(); c++) {
            for (int time = 0; time < clauses.get(c).times; time++) {
                int told = runOne(clauses.get(c), w);
                if (told < 0) {
                    stopped = c;
                    now = ahead;
                    log = logAhead;
                    return refuse(-3);
                }
                if (told < 1000) {
                    done[0]++;
                    done[1] = told;
                }
            }
        }
        return grant(done[0]);
    }

    /** 1000: not to be run. */
    private int runOne(Clause c, Words w) {
        try {
            if (c.when != null && !c.when.so(w)) {
                return 1000;
            }
        } catch (Broken b) {
            return 1000;
        }
        try {
            long first = c.first.value(w);
            return switch (c.kind) {
                case "lay" -> layIt(c.second.value(w), first);
                case "through" -> throughIt(first);
                case "draw" -> drawIt(first);
                default -> mirrorIt(first);
            };
        } catch (Broken b) {
            return -3;
        }
    }

    int fault() {
        return fault;
    }

    int stopped() {
        return stopped;
    }

    int force(int law) {
        if (law < -1 || law >= now.laws.size()) {
            return refuse(-2);
        }
        int was = now.force;
        now.force = law;
        return grant(was);
    }

    int asks(int knot, int place, int what) {
        Tie t = tie(knot);
        if (t == null || place < 0 || place > 2 || what < 0 || what > 2 || t.places.size() == 12) {
            return NOTHING;
        }
        int n = t.places.size();
        return ask(t.thick, t.start, n, n == 0 ? -1 : t.places.get(n - 1), place)[what];
    }

    int lay(int knot, int place) {
        return judged(layIt(knot, place));
    }

    int through(int knot) {
        return judged(throughIt(knot));
    }

    int draw(int knot) {
        return judged(drawIt(knot));
    }

    int mirror(int knot) {
        return judged(mirrorIt(knot));
    }

    int undo() {
        if (log.isEmpty()) {
            return refuse(-3);
        }
        Undone u = log.removeLast();
        now.knots.set(u.knot(), u.ahead());
        return grant(u.kind());
    }

    int front(int knot, int i) {
        Tie t = tie(knot);
        List<Integer> f = t == null ? List.of() : front(t.start, t.places);
        return i >= 0 && i < f.size() ? f.get(i) : NONE;
    }

    int ways(int n, int centres) {
        return length(n) ? (int) proper(n).stream().filter(p -> centres == -1 || centres(p) == centres).count() : NONE;
    }

    private static int pick(List<List<Integer>> words, int i, int k) {
        return i >= 0 && i < words.size() && k >= 0 && k < words.get(i).size() ? words.get(i).get(k) : NONE;
    }

    int word(int n, int i, int k) {
        return length(n) ? pick(proper(n), i, k) : NONE;
    }

    int rank(int knot) {
        Tie t = tie(knot);
        return t == null || !length(t.places.size()) ? NONE : proper(t.places.size()).indexOf(t.places);
    }

    int best(int cloth, int what) {
        if (cloth < 1 || cloth > 200) {
            return NONE;
        }
        List<List<Integer>> can = new ArrayList<>();
        for (int n = 3; n <= 12; n++) {
            can.addAll(proper(n).stream().filter(p -> paperTakes(p) <= cloth && paperGrip(p) >= now.terms[1]).toList());
        }
        // the list is in order by length and rank, and min() takes the first of equals
        List<Integer> b = can.stream().min((x, y) -> {
            int byLean = Math.abs(lean(x)) - Math.abs(lean(y));
            return byLean != 0 ? byLean : twists(y) - twists(x);
        }).orElse(null);
        if (b == null || what < 0 || what >= 4 + b.size()) {
            return NONE;
        }
        int[] told = {b.size(), Math.abs(lean(b)), twists(b), paperTakes(b)};
        return what < 4 ? told[what] : b.get(what - 4);
    }

    int change(int knot, int what) {
        Tie t = tie(knot);
        if (t == null || !length(t.places.size())) {
            return NONE;
        }
        List<Integer> best = null;
        int fewest = 99;
        for (List<Integer> p : proper(t.places.size())) {
            int unlike = 0;
            for (int k = 0; k < p.size(); k++) {
                unlike += p.get(k).equals(t.places.get(k)) ? 0 : 1;
            }
            if (unlike < fewest) {
                fewest = unlike;
                best = p;
            }
        }
        if (best == null || what < 0 || what > best.size()) {
            return NONE;
        }
        return what == 0 ? fewest : best.get(what - 1);
    }

    int alike(int n, int what) {
        if (!length(n) || what < 0 || what > 1) {
            return NONE;
        }
        Map<List<Integer>, Integer> fronts = new HashMap<>();
        for (List<Integer> p : proper(n)) {
            fronts.merge(front(startOf(n), p), 1, Integer::sum);
        }
        return what == 0 ? fronts.size() : fronts.values().stream().max(Integer::compare).orElse(0);
    }

    int sight(int k, int place) {
        if (k < 0 || k > 11 || place < 0 || place > 2) {
            return refuse(-1);
        }
        if (now.sights.size() == 12) {
            return refuse(-5);
        }
        now.sights.add(new int[] {k, place});
        return grant(now.sights.size());
    }

    int forget() {
        int were = now.sights.size();
        now.sights.clear();
        return were;
    }

    int fits(int n, int mirror, int i, int k) {
        if (!length(n) || mirror < 0 || mirror > 1) {
            return NONE;
        }
        return i == -1 ? fitting(n, mirror).size() : pick(fitting(n, mirror), i, k);
    }

    int look(int n, int mirror) {
        if (!length(n) || mirror < 0 || mirror > 1 || fitting(n, mirror).isEmpty()) {
            return NONE;
        }
        List<List<Integer>> f = fitting(n, mirror);
        int where = NONE;
        long fewest = Long.MAX_VALUE;
        for (int k = 0; k < n; k++) {
            long most = 0;
            for (int place = 0; place < 3; place++) {
                int kk = k;
                int pp = place;
                most = Math.max(most, f.stream().filter(p -> p.get(kk) == pp).count());
            }
            if (most < fewest) {
                fewest = most;
                where = k;
            }
        }
        return where;
    }

    int boy(int cloth) {
        if (cloth < 1 || cloth > 200) {
            return refuse(-1);
        }
        if (now.boys.size() == 6) {
            return refuse(-5);
        }
        now.boys.add(cloth);
        return grant(now.boys.size() - 1);
    }

    int home() {
        int were = now.boys.size();
        now.boys.clear();
        return were;
    }

    private int[] bestRow;
    private int bestDressed;

    int wear(int what) {
        if (what < 0 || what > now.boys.size()) {
            return NONE;
        }
        bestRow = null;
        bestDressed = -1;
        dress(0, new int[now.boys.size()], 0);
        return what == 0 ? bestDressed : bestRow[what - 1];
    }

    /** Rows are tried in order, so the first with so many is the first of all. */
    private void dress(int b, int[] row, int dressed) {
        if (b == row.length) {
            if (dressed > bestDressed) {
                bestDressed = dressed;
                bestRow = row.clone();
            }
            return;
        }
        for (int k = 0; k < now.knots.size(); k++) {
            Tie t = now.knots.get(k);
            if (!t.through || grip(t) < now.terms[1] || takes(t) > now.boys.get(b)) {
                continue;
            }
            boolean free = true;
            for (int other = 0; other < b; other++) {
                if (row[other] != 100) {
                    Tie o = now.knots.get(row[other]);
                    free &= row[other] != k && !front(o.start, o.places).equals(front(t.start, t.places));
                }
            }
            if (free) {
                row[b] = k;
                dress(b + 1, row, dressed + 1);
            }
        }
        row[b] = 100;
        dress(b + 1, row, dressed);
    }

    private long seed;

    private int next(int m) {
        seed = (seed * 1103 + 12345) % 1000003;
        return (int) (seed % m);
    }

    int hands(int s, int n, int m) {
        if (s < 0 || s > 1000000 || n < 1 || n > 100 || m < 3 || m > 12) {
            return refuse(-1);
        }
        seed = s;
        handMoves = m;
        handStrong = 0;
        handLean = -1;
        int found = 0;
        for (int i = 0; i < n; i++) {
            handLast = new ArrayList<>();
            handLast.add(next(3));
            while (handLast.size() < m) {
                List<Integer> can = new ArrayList<>(List.of(0, 1, 2));
                can.remove(handLast.get(handLast.size() - 1));
                handLast.add(can.get(next(2)));
            }
            if (isProper(handLast)) {
                found++;
                handStrong += paperGrip(handLast) >= now.terms[1] ? 1 : 0;
                handLean = Math.max(handLean, Math.abs(lean(handLast)));
            }
        }
        return grant(found);
    }

    int drawn(int what) {
        if (handMoves == 0 || what < 0 || what >= 2 + handMoves) {
            return NONE;
        }
        return what == 0 ? handStrong : what == 1 ? handLean : handLast.get(what - 2);
    }

    int image(int k) {
        if (k < 0 || k > 1) {
            return refuse(-1);
        }
        images[k] = now.copy();
        return grant(0);
    }

    int back(int k) {
        if (k < 0 || k > 1) {
            return refuse(-1);
        }
        if (images[k] == null) {
            return refuse(-2);
        }
        now = images[k].copy();
        log.clear();
        return grant(0);
    }

    int count(int what) {
        if (what >= 6 && what <= 10) {
            return refusals.getOrDefault(List.of(-1, -2, -3, -5, -6).get(what - 6), 0);
        }
        return switch (what) {
            case 0 -> now.knots.size();
            case 1 -> now.boys.size();
            case 2 -> now.sights.size();
            case 3 -> now.laws.size();
            case 4 -> log.size();
            case 5 -> tape.length;
            case 11 -> now.force;
            case 12, 13, 14 -> now.terms[what - 12];
            default -> NONE;
        };
    }

    int status() {
        return status;
    }
}
