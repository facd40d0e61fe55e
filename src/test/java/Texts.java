import java.nio.charset.StandardCharsets;
import java.util.ArrayList;
import java.util.List;
import java.util.Random;

/** Texts as calls of feed() and end(), and texts by chance. */
final class Texts {
    private Texts() {
    }

    /** The five numbers of each feed() that puts the bytes on an empty tape; end() cuts what is too much. */
    static List<int[]> feeds(byte[] bytes) {
        List<int[]> calls = new ArrayList<>();
        for (int from = 0; from < bytes.length; from += 20) {
            int[] five = new int[5];
            for (int i = 0; i < 20; i++) {
                int b = from + i < bytes.length ? bytes[from + i] & 255 : 0;
                five[i / 4] |= b << (24 - 8 * (i % 4));
            }
            calls.add(five);
        }
        return calls;
    }

    static byte[] bytes(String text) {
        return text.getBytes(StandardCharsets.ISO_8859_1);
    }

    /** Puts the text alone on the tape of the object. */
    static void put(NeckKnots x, byte[] bytes) {
        x.end(0);
        for (int[] f : feeds(bytes)) {
            x.feed(f[0], f[1], f[2], f[3], f[4]);
        }
        x.end(bytes.length);
    }

    static int law(NeckKnots x, String text) {
        put(x, bytes(text));
        return x.law();
    }

    static int orders(NeckKnots x, String text) {
        put(x, bytes(text));
        return x.orders();
    }

    static int row(NeckKnots x, int... bytes) {
        byte[] b = new byte[bytes.length];
        for (int i = 0; i < bytes.length; i++) {
            b[i] = (byte) bytes[i];
        }
        put(x, b);
        return x.row();
    }

    private static String of(Random r, String... some) {
        return some[r.nextInt(some.length)];
    }

    private static String gap(Random r) {
        return of(r, "", " ", " ", "  ");
    }

    private static String part(Random r, boolean law, int depth) {
        int roll = r.nextInt(10);
        if (roll < 1 && depth < 10) {
            return "[" + gap(r) + sum(r, law, depth + 1) + gap(r) + "]";
        }
        if (roll < 5) {
            return r.nextInt(8) == 0 ? of(r, "1000", "999", "1001", "0", "0007", "20", "50") : "" + r.nextInt(4);
        }
        if (law) {
            return of(r, "place", "side", "at", "before", "thick", "mood");
        }
        return of(r, "knots", "done", "latest", "many " + r.nextInt(3), "end " + r.nextInt(3), "cloth" + gap(r) + r.nextInt(8));
    }

    private static String sum(Random r, boolean law, int depth) {
        StringBuilder s = new StringBuilder(part(r, law, depth));
        int more = r.nextInt(40) == 0 ? r.nextInt(12) : Math.max(0, r.nextInt(5) - 2);
        for (int i = 0; i < more; i++) {
            s.append(gap(r)).append(of(r, "+", "-", "*", "/", "%")).append(gap(r)).append(part(r, law, depth));
        }
        return s.toString();
    }

    private static String plain(Random r, boolean law, int depth) {
        int roll = r.nextInt(8);
        if (roll == 0) {
            return "not " + plain(r, law, depth);
        }
        if (roll == 1 && depth < 10) {
            return "(" + gap(r) + test(r, law, depth + 1) + gap(r) + ")";
        }
        return sum(r, law, depth) + gap(r) + of(r, "<", ">", "=") + gap(r) + sum(r, law, depth);
    }

    private static String test(Random r, boolean law, int depth) {
        StringBuilder s = new StringBuilder(plain(r, law, depth));
        int more = Math.max(0, r.nextInt(5) - 2);
        for (int i = 0; i < more; i++) {
            s.append(of(r, " and ", " or ")).append(plain(r, law, depth));
        }
        return s.toString();
    }

    private static String lawClause(Random r) {
        String head = switch (r.nextInt(5)) {
            case 0, 1 -> "takes " + sum(r, true, 0);
            case 2, 3 -> "grips " + sum(r, true, 0);
            default -> "bars";
        };
        boolean bars = head.equals("bars");
        return bars || r.nextInt(2) == 0 ? head + " if " + test(r, true, 0) : head;
    }

    private static String orderClause(Random r) {
        String knot = r.nextInt(5) == 0 ? sum(r, false, 0) : "" + r.nextInt(3);
        String place = r.nextInt(3) == 0 ? sum(r, false, 0) : "" + r.nextInt(3);
        String head = switch (r.nextInt(7)) {
            case 0 -> "through " + knot;
            case 1 -> "draw " + knot;
            case 2 -> "mirror " + knot;
            case 3 -> "lay [end " + knot + " + 1] % 3 on " + knot;
            default -> "lay " + place + " on " + knot;
        };
        if (r.nextInt(5) == 0) {
            head += " times " + (r.nextInt(6) == 0 ? r.nextInt(30) : r.nextInt(4) + 1);
        }
        return r.nextInt(3) == 0 ? head + " if " + test(r, false, 0) : head;
    }

    private static String spoilt(Random r, String text) {
        StringBuilder s = new StringBuilder(text);
        int where = r.nextInt(s.length() + 1);
        switch (r.nextInt(4)) {
            case 0: s.insert(where, of(r, " ", ";", "(", "[", "]", ")", "9", "a", "Z", "\t", "\0", " or ", " not ", "=")); break;
            case 1: s.setLength(where); break;
            case 2: s.insert(where, (char) (128 + r.nextInt(128))); break;
            default:
                if (where < s.length()) {
                    s.deleteCharAt(where);
                }
        }
        return s.toString();
    }

    static byte[] random(Random r, boolean law) {
        int clauses = r.nextInt(12) == 0 ? 11 + r.nextInt(4) : 1 + r.nextInt(law ? 5 : 4);
        StringBuilder s = new StringBuilder();
        for (int i = 0; i < clauses; i++) {
            s.append(i == 0 ? "" : of(r, ";", " ; ", "; ")).append(law ? lawClause(r) : orderClause(r));
        }
        String text = r.nextInt(6) == 0 ? spoilt(r, s.toString()) : s.toString();
        return bytes(text.length() > 400 ? text.substring(0, 400) : text);
    }
}
