import java.lang.reflect.Method;
import java.util.ArrayList;
import java.util.Arrays;
import java.util.HashMap;
import java.util.List;
import java.util.Map;
import java.util.Random;

/** Runs of calls by chance, each answer compared with that of the slow model. */
public final class RandomRunsTest {
    private static final Map<String, Method> FAST = new HashMap<>();
    private static final Map<String, Method> SLOW = new HashMap<>();
    private static final Map<String, Integer> GOOD = new HashMap<>();
    private static final int[] EDGES = {Integer.MIN_VALUE, Integer.MAX_VALUE, -1000, -2, -1, 0, 1, 2, 3, 8, 9, 12, 13, 100, 200, 201};

    private final Random r;
    private final NeckKnots fast = new NeckKnots();
    private final SlowKnots slow = new SlowKnots();
    private final List<String> told = new ArrayList<>();
    private boolean wrong = false;

    private RandomRunsTest(long seed) {
        r = new Random(seed);
    }

    private void call(String name, int... args) throws ReflectiveOperationException {
        if (told.size() >= 512 || wrong) {
            return;
        }
        Object[] boxed = Arrays.stream(args).boxed().toArray();
        int got = (Integer) FAST.get(name).invoke(fast, boxed);
        int want = (Integer) SLOW.get(name).invoke(slow, boxed);
        told.add(name + Arrays.toString(args) + " " + got);
        GOOD.merge(name + (got >= 0 ? " granted" : " refused"), 1, Integer::sum);
        if (got != want) {
            wrong = true;
            System.out.println(String.join("\n", told.subList(Math.max(0, told.size() - 40), told.size())));
            System.out.println("due is " + want);
        }
    }

    private int upTo(int n) {
        return r.nextInt(n);
    }

    private void text(byte[] bytes) throws ReflectiveOperationException {
        if (upTo(10) > 0) {
            call("end", 0);
        }
        for (int[] f : Texts.feeds(bytes)) {
            call("feed", f);
        }
        call("end", bytes.length);
    }

    private void laws() throws ReflectiveOperationException {
        text(Texts.random(r, true));
        call("law");
        call("fault");
        call("force", upTo(8) - 1);
    }

    private void orders() throws ReflectiveOperationException {
        text(Texts.random(r, false));
        call("orders");
        call("fault");
        call("stopped");
    }

    private void row() throws ReflectiveOperationException {
        byte[] b = new byte[upTo(12)];
        for (int i = 0; i < b.length; i++) {
            b[i] = (byte) (i % 3 == 0 ? upTo(3) : i % 3 == 1 ? upTo(11) : upTo(256));
        }
        text(b);
        call("row");
        call("lint");
    }

    /** A whole knot laid and put through, so that there is something to wear. */
    private void tie() throws ReflectiveOperationException {
        int knot = upTo(8);
        int at = slow.of(knot, 3);
        int start = slow.of(knot, 0);
        for (int i = 0; i < 12; i++) {
            call("lay", knot, upTo(3));
        }
        if ((start + at) % 2 == 0) {
            call("lay", knot, upTo(3));
        }
        int first = upTo(2);
        call("lay", knot, first);
        call("lay", knot, 1 - first);
        call("lay", knot, 2);
        call("through", knot);
    }

    private void shortTie() throws ReflectiveOperationException {
        int start = upTo(2);
        int knot = slow.count(0);
        call("knot", start, 1 + upTo(3), 60 + upTo(140));
        int extra = start + 2 * upTo(3);
        for (int i = 0; i < extra; i++) {
            call("lay", knot, (i + extra) % 3);
        }
        int first = upTo(2);
        call("lay", knot, first);
        call("lay", knot, 1 - first);
        call("lay", knot, 2);
        call("through", knot);
    }

    private void act() throws ReflectiveOperationException {
        int knot = upTo(20) == 0 ? EDGES[upTo(EDGES.length)] : upTo(4);
        switch (upTo(8)) {
            case 0: call("through", knot); break;
            case 1: call("draw", knot); break;
            case 2: call("mirror", knot); break;
            case 3: call("undo"); break;
            default: call("lay", knot, upTo(30) == 0 ? EDGES[upTo(EDGES.length)] : upTo(3)); break;
        }
        call("status");
    }

    private void seeKnot() throws ReflectiveOperationException {
        int knot = upTo(20) == 0 ? EDGES[upTo(EDGES.length)] : upTo(5);
        call("of", knot, upTo(26) - 1);
        call("of", knot, 5 + upTo(7));
        call("asks", knot, upTo(4), upTo(4) - 1);
        call("front", knot, upTo(5) - 1);
        call("rank", knot);
        call("change", knot, upTo(14) - 1);
    }

    private void seePaper() throws ReflectiveOperationException {
        int n = upTo(12) == 0 ? EDGES[upTo(EDGES.length)] : 3 + upTo(upTo(4) == 0 ? 10 : 6);
        switch (upTo(6)) {
            case 0: call("ways", n, upTo(8) - 2); break;
            case 1: call("word", n, upTo(1 << Math.max(0, Math.min(n, 12) - 2)), upTo(13) - 1); break;
            case 2: call("best", upTo(20) == 0 ? EDGES[upTo(EDGES.length)] : 10 + upTo(120), upTo(17) - 1); break;
            case 3: call("alike", n, upTo(4) - 1); break;
            case 4: call("fits", n, upTo(9) == 0 ? upTo(4) - 1 : upTo(2), upTo(7) - 2, upTo(n < 0 || n > 12 ? 12 : n + 1)); break;
            default: call("look", n, upTo(9) == 0 ? upTo(4) - 1 : upTo(2)); break;
        }
    }

    private void rest() throws ReflectiveOperationException {
        int edge = EDGES[upTo(EDGES.length)];
        switch (upTo(17)) {
            case 0: call("knot", upTo(9) == 0 ? edge : upTo(2), upTo(9) == 0 ? edge : 1 + upTo(9), upTo(9) == 0 ? edge : 1 + upTo(200)); break;
            case 1: call("terms", upTo(4), upTo(5) == 0 ? edge : upTo(8)); break;
            case 2: row(); break;
            case 3: call("sight", upTo(9) == 0 ? edge : upTo(12), upTo(9) == 0 ? edge : upTo(3)); break;
            case 4: call("sight", 0, upTo(3)); break;
            case 5: call("forget"); break;
            case 6: call("boy", upTo(9) == 0 ? edge : 1 + upTo(60)); break;
            case 7: call("boy", 20 + upTo(30)); break;
            case 8:
                if (upTo(4) == 0) {
                    call("home");
                }
                break;
            case 9: call("hands", upTo(9) == 0 ? edge : upTo(1000001), upTo(9) == 0 ? edge : 1 + upTo(100), upTo(9) == 0 ? edge : 3 + upTo(10)); break;
            case 10: call("drawn", upTo(16) - 1); break;
            case 11: call("image", upTo(3)); break;
            case 12: call("back", upTo(3)); break;
            case 13: call("end", upTo(9) == 0 ? edge : upTo(30)); break;
            case 14: call("feed", upTo(99), edge, r.nextInt(), upTo(9), edge); break;
            case 15: call("force", edge); break;
            default: call("status"); break;
        }
        call("count", upTo(17) - 1);
    }

    private boolean run() throws ReflectiveOperationException {
        int start = upTo(6);
        for (int i = 0; i < start; i++) {
            if (upTo(2) == 0) {
                shortTie();
            } else {
                call("knot", upTo(2), 1 + upTo(3), 20 + upTo(180));
            }
        }
        for (int i = 0; i < 400 && told.size() < 512 && !wrong; i++) {
            int roll = upTo(100);
            if (roll < 4) {
                laws();
            } else if (roll < 14) {
                orders();
            } else if (roll < 18) {
                tie();
            } else if (roll < 22) {
                shortTie();
            } else if (roll < 40) {
                act();
            } else if (roll < 55) {
                seeKnot();
            } else if (roll < 70) {
                seePaper();
            } else if (roll < 80) {
                call("wear", upTo(20) == 0 ? upTo(9) - 1 : upTo(slow.count(1) + 1));
            } else {
                rest();
            }
        }
        return !wrong;
    }

    public static void main(String[] args) throws ReflectiveOperationException {
        for (Method m : SlowKnots.class.getDeclaredMethods()) {
            Class<?>[] types = m.getParameterTypes();
            if (Arrays.stream(types).allMatch(t -> t == int.class) && m.getReturnType() == int.class) {
                for (Method f : NeckKnots.class.getMethods()) {
                    if (f.getName().equals(m.getName()) && f.getParameterCount() == m.getParameterCount()) {
                        SLOW.put(m.getName(), m);
                        FAST.put(m.getName(), f);
                    }
                }
            }
        }
        int runs = args.length > 0 ? Integer.parseInt(args[0]) : 300;
        int bad = 0;
        for (int seed = 0; seed < runs && bad < 3; seed++) {
            if (!new RandomRunsTest(seed).run()) {
                System.out.println("run of seed " + seed + " is wrong");
                bad++;
            }
        }
        if (args.length > 1) {
            new java.util.TreeMap<>(GOOD).forEach((k, v) -> System.out.println(k + " " + v));
        }
        System.out.println(bad == 0 ? runs + " random runs are as due" : bad + " random runs are wrong");
        if (bad != 0) {
            System.exit(1);
        }
    }
}
