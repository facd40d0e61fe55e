/** Knots in ties: laws, orders, words on paper and who wears what, as the document DOC.md promises. */
public final class NeckKnots {
    public static final int NONE = -1;
    public static final int NOTHING = -1000;

    private static final int BAD_NUMBER = -1;
    private static final int NO_SUCH = -2;
    private static final int CANNOT = -3;
    private static final int NO_ROOM = -5;
    private static final int BAD_TEXT = -6;

    private static final int LEFT = 0;
    private static final int RIGHT = 1;
    private static final int CENTRE = 2;
    private static final int PLACES = 3;
    private static final int OUT = 0;

    private static final int MOST_KNOTS = 8;
    private static final int MOST_MOVES = 12;
    private static final int LEAST_WORD = 3;
    private static final int MOST_BOYS = 6;
    private static final int MOST_SIGHTS = 12;
    private static final int MOST_LAWS = 6;
    private static final int MOST_CLAUSES = 12;
    private static final int MOST_THICK = 9;
    private static final int MOST_CLOTH = 200;
    private static final int MOST_UNDONE = 16;
    private static final int LONGEST_TAPE = 400;
    private static final int IMAGES = 2;

    private static final int MOOD = 0;
    private static final int NEED = 1;
    private static final int THICK = 2;

    private static final int BY_LAY = 0;
    private static final int BY_THROUGH = 1;
    private static final int BY_DRAW = 2;
    private static final int BY_MIRROR = 3;

    /** No sum can be so: those that are not broken stay within 1,000,000,000 either way. */
    private static final int BROKEN = -2147483648;
    private static final int STACK = 64;

    private final int[] tape = new int[LONGEST_TAPE];
    private int tapeLength = 0;
    private final Drawer drawer = new Drawer();
    private final Drawer[] images = new Drawer[IMAGES];
    private final Judge judge = new Judge();
    private final Table table = new Table(drawer, judge);
    private final Reader reader = new Reader();
    private final Runner runner = new Runner(table);
    private final Paper paper = new Paper(judge);
    private final Hands latestHands = new Hands();
    private final Wardrobe wardrobe = new Wardrobe();
    private final int[] refusals = new int[5];
    private int latestStatus = 0;
    private int latestFault = NONE;
    private int latestLint = 0;

    public NeckKnots() {
    }

    public int knot(int start, int thick, int cloth) {
        if (!knotCanBe(start, thick, cloth)) {
            return refused(BAD_NUMBER);
        }
        if (!drawer.addKnot(start, thick, cloth)) {
            return refused(NO_ROOM);
        }
        drawer.log.clear();
        return granted(drawer.knotCount - 1);
    }

    public int of(int knot, int what) {
        Knot tie = drawer.knotAt(knot);
        if (tie == null || what < 0) {
            return NOTHING;
        }
        if (what >= 5 && what <= 7) {
            judge.weigh(drawer, tie);
        }
        switch (what) {
            case 0: return tie.start;
            case 1: return tie.thick;
            case 2: return tie.cloth;
            case 3: return tie.moves;
            case 4: return tie.through ? 1 : 0;
            case 5: return judge.allTake;
            case 6: return judge.allGrip;
            case 7: return tie.through && judge.allGrip >= drawer.terms[NEED] ? 1 : 0;
            case 8: return centresOf(tie.places, tie.moves);
            case 9: return leanOf(tie.places, tie.moves);
            case 10: return twistsOf(tie.places, tie.moves);
            case 11: return leftOf(tie.places, tie.moves);
            default: return what - 12 < tie.moves ? tie.places[what - 12] : NOTHING;
        }
    }

    public int terms(int what, int value) {
        if (what < MOOD || what > THICK) {
            return refused(BAD_NUMBER);
        }
        int least = what == THICK ? 1 : 0;
        int most = what == NEED ? 99 : 9;
        if (value < least || value > most) {
            return refused(BAD_NUMBER);
        }
        int was = drawer.terms[what];
        drawer.terms[what] = value;
        drawer.log.clear();
        return granted(was);
    }

    public int feed(int a, int b, int c, int d, int e) {
        if (tapeLength + 20 > LONGEST_TAPE) {
            return NONE;
        }
        putBytes(a);
        putBytes(b);
        putBytes(c);
        putBytes(d);
        putBytes(e);
        return tapeLength;
    }

    public int end(int n) {
        if (n < 0 || n > tapeLength) {
            return NONE;
        }
        tapeLength = n;
        return n;
    }

    public int row() {
        int length = emptiedTape();
        if (length == 0) {
            return refused(BAD_TEXT);
        }
        int came = 0;
        latestLint = 0;
        for (int i = 0; i < length; i += 3) {
            if (i + 2 < length && knotCanBe(tape[i], tape[i + 1], tape[i + 2])
                    && drawer.addKnot(tape[i], tape[i + 1], tape[i + 2])) {
                came++;
            } else {
                latestLint++;
            }
        }
        drawer.log.clear();
        return granted(came);
    }

    public int lint() {
        return latestLint;
    }

    public int law() {
        int length = emptiedTape();
        if (drawer.lawCount >= MOST_LAWS) {
            return refused(NO_ROOM);
        }
        latestFault = reader.read(tape, length, true);
        if (latestFault != NONE) {
            return refused(BAD_TEXT);
        }
        drawer.addLaw(reader.draft.kept());
        return granted(drawer.lawCount - 1);
    }

    public int orders() {
        runner.stopped = NONE;
        latestFault = reader.read(tape, emptiedTape(), false);
        if (latestFault != NONE) {
            return refused(BAD_TEXT);
        }
        return outcome(runner.run(reader.draft));
    }

    public int fault() {
        return latestFault;
    }

    public int stopped() {
        return runner.stopped;
    }

    public int force(int law) {
        if (law < NONE || law >= drawer.lawCount) {
            return refused(NO_SUCH);
        }
        int was = drawer.inForce;
        drawer.inForce = law;
        return granted(was);
    }

    public int asks(int knot, int place, int what) {
        Knot tie = drawer.knotAt(knot);
        if (tie == null || !isPlace(place) || tie.moves >= MOST_MOVES) {
            return NOTHING;
        }
        judge.askNext(drawer, tie, place);
        switch (what) {
            case 0: return judge.takes;
            case 1: return judge.grips;
            case 2: return judge.barred ? 1 : 0;
            default: return NOTHING;
        }
    }

    public int lay(int knot, int place) {
        return outcome(table.layOn(knot, place));
    }

    public int through(int knot) {
        return outcome(table.putThrough(knot));
    }

    public int draw(int knot) {
        return outcome(table.drawBack(knot));
    }

    public int mirror(int knot) {
        return outcome(table.turnOver(knot));
    }

    public int undo() {
        return outcome(table.undoLatest());
    }

    public int front(int knot, int i) {
        Knot tie = drawer.knotAt(knot);
        if (tie == null || i < 0 || i >= PLACES) {
            return NONE;
        }
        return frontPlace(frontOf(tie.places, tie.moves, tie.start), i);
    }

    public int ways(int n, int centres) {
        if (!isWordLength(n)) {
            return NONE;
        }
        paper.prepare(drawer, n);
        return paper.howMany(n, centres);
    }

    public int word(int n, int i, int k) {
        if (!isWordLength(n) || k < 0 || k >= n) {
            return NONE;
        }
        paper.prepare(drawer, n);
        return i >= 0 && i < paper.counts[n] ? paper.placeIn(n, i, k) : NONE;
    }

    public int rank(int knot) {
        Knot tie = drawer.knotAt(knot);
        if (tie == null || !isWordLength(tie.moves)) {
            return NONE;
        }
        paper.prepare(drawer, tie.moves);
        return paper.find(tie.places, tie.moves);
    }

    public int best(int cloth, int what) {
        if (cloth < 1 || cloth > MOST_CLOTH || what < 0) {
            return NONE;
        }
        int n = paper.chooseBest(drawer, cloth);
        if (n == NONE) {
            return NONE;
        }
        int i = paper.chosen;
        switch (what) {
            case 0: return n;
            case 1: return paper.leanIn(n, i);
            case 2: return paper.twistsIn(n, i);
            case 3: return paper.takesIn(n, i);
            default: return what - 4 < n ? paper.placeIn(n, i, what - 4) : NONE;
        }
    }

    public int change(int knot, int what) {
        Knot tie = drawer.knotAt(knot);
        if (tie == null || what < 0 || what > tie.moves || !isWordLength(tie.moves)) {
            return NONE;
        }
        paper.prepare(drawer, tie.moves);
        int unlike = paper.chooseNearest(tie.places, tie.moves);
        if (unlike == NONE || what == 0) {
            return unlike;
        }
        return paper.placeIn(tie.moves, paper.chosen, what - 1);
    }

    public int alike(int n, int what) {
        if (!isWordLength(n) || what < 0 || what > 1) {
            return NONE;
        }
        paper.prepare(drawer, n);
        paper.countFronts(n);
        return what == 0 ? paper.unlikeFronts : paper.commonestFront;
    }

    public int sight(int k, int place) {
        if (k < 0 || k >= MOST_MOVES || !isPlace(place)) {
            return refused(BAD_NUMBER);
        }
        if (!drawer.addSight(k, place)) {
            return refused(NO_ROOM);
        }
        return granted(drawer.sightCount);
    }

    public int forget() {
        int were = drawer.sightCount;
        drawer.sightCount = 0;
        return were;
    }

    public int fits(int n, int mirror, int i, int k) {
        if (!isWordLength(n) || mirror < 0 || mirror > 1 || i < NONE) {
            return NONE;
        }
        paper.prepare(drawer, n);
        if (i == NONE) {
            return paper.countFitting(drawer, n, mirror == 1);
        }
        int found = paper.fittingAt(drawer, n, mirror == 1, i);
        return found != NONE && k >= 0 && k < n ? paper.placeIn(n, found, k) : NONE;
    }

    public int look(int n, int mirror) {
        if (!isWordLength(n) || mirror < 0 || mirror > 1) {
            return NONE;
        }
        paper.prepare(drawer, n);
        return paper.whereToLook(drawer, n, mirror == 1);
    }

    public int boy(int cloth) {
        if (cloth < 1 || cloth > MOST_CLOTH) {
            return refused(BAD_NUMBER);
        }
        if (!drawer.addBoy(cloth)) {
            return refused(NO_ROOM);
        }
        return granted(drawer.boyCount - 1);
    }

    public int home() {
        int were = drawer.boyCount;
        drawer.boyCount = 0;
        return were;
    }

    public int wear(int what) {
        if (what < 0 || what > drawer.boyCount) {
            return NONE;
        }
        wardrobe.dress(drawer, judge);
        return what == 0 ? wardrobe.dressed() : wardrobe.worn[what - 1];
    }

    public int hands(int seed, int n, int m) {
        if (seed < 0 || seed > 1000000 || n < 1 || n > 100 || !isWordLength(m)) {
            return refused(BAD_NUMBER);
        }
        paper.prepare(drawer, m);
        latestHands.deal(seed, n, m, paper, drawer.terms[NEED]);
        return granted(latestHands.proper);
    }

    public int drawn(int what) {
        if (latestHands.moves == 0 || what < 0) {
            return NONE;
        }
        switch (what) {
            case 0: return latestHands.strong;
            case 1: return latestHands.greatestLean;
            default: return what - 2 < latestHands.moves ? latestHands.places[what - 2] : NONE;
        }
    }

    public int image(int k) {
        if (k < 0 || k >= IMAGES) {
            return refused(BAD_NUMBER);
        }
        if (images[k] == null) {
            images[k] = new Drawer();
        }
        images[k].copyFrom(drawer);
        return granted(0);
    }

    public int back(int k) {
        if (k < 0 || k >= IMAGES) {
            return refused(BAD_NUMBER);
        }
        if (images[k] == null) {
            return refused(NO_SUCH);
        }
        drawer.copyFrom(images[k]);
        drawer.log.clear();
        return granted(0);
    }

    public int count(int what) {
        if (what >= 6 && what <= 10) {
            return refusals[what - 6];
        }
        if (what >= 12 && what <= 14) {
            return drawer.terms[what - 12];
        }
        switch (what) {
            case 0: return drawer.knotCount;
            case 1: return drawer.boyCount;
            case 2: return drawer.sightCount;
            case 3: return drawer.lawCount;
            case 4: return drawer.log.size;
            case 5: return tapeLength;
            case 11: return drawer.inForce;
            default: return NONE;
        }
    }

    public int status() {
        return latestStatus;
    }

    private int granted(int answer) {
        latestStatus = 0;
        return answer;
    }

    private int refused(int why) {
        latestStatus = why;
        switch (why) {
            case BAD_NUMBER: refusals[0]++; break;
            case NO_SUCH: refusals[1]++; break;
            case CANNOT: refusals[2]++; break;
            case NO_ROOM: refusals[3]++; break;
            default: refusals[4]++; break;
        }
        return why;
    }

    /** Only for calls of which no answer that is not a refusal is below 0. */
    private int outcome(int answer) {
        return answer < 0 ? refused(answer) : granted(answer);
    }

    private void putBytes(int four) {
        for (int shift = 24; shift >= 0 && tapeLength < LONGEST_TAPE; shift -= 8) {
            tape[tapeLength] = (four >>> shift) & 255;
            tapeLength++;
        }
    }

    /** The bytes stay where they are for the one who reads them now. */
    private int emptiedTape() {
        int length = tapeLength;
        tapeLength = 0;
        return length;
    }

    private static boolean knotCanBe(int start, int thick, int cloth) {
        return start >= 0 && start <= 1 && thick >= 1 && thick <= MOST_THICK && cloth >= 1 && cloth <= MOST_CLOTH;
    }

    private static boolean isPlace(int place) {
        return place >= LEFT && place <= CENTRE;
    }

    private static boolean isWordLength(int n) {
        return n >= LEAST_WORD && n <= MOST_MOVES;
    }

    private static int mirrored(int place) {
        return place == LEFT ? RIGHT : place == RIGHT ? LEFT : place;
    }

    /** The start with which the last of n moves is out. */
    private static int startOfWord(int n) {
        return (n - 1) & 1;
    }

    private static boolean canGoThrough(int[] places, int moves, int start) {
        if (moves < LEAST_WORD || moves > places.length) {
            return false;
        }
        int ahead = places[moves - 2];
        int first = places[moves - 3];
        boolean out = ((start + moves - 1) & 1) == OUT;
        return out && places[moves - 1] == CENTRE && ahead != CENTRE && first == mirrored(ahead);
    }

    private static int centresOf(int[] places, int moves) {
        int centres = 0;
        for (int at = 0; at < moves; at++) {
            centres += places[at] == CENTRE ? 1 : 0;
        }
        return centres;
    }

    private static int leanOf(int[] places, int moves) {
        int lean = 0;
        for (int at = 0; at < moves; at++) {
            lean += places[at] == LEFT ? 1 : places[at] == RIGHT ? -1 : 0;
        }
        return lean;
    }

    /** 1 for one way, -1 for the other. */
    private static int wound(int from, int to) {
        boolean one = from == LEFT && to == CENTRE || from == CENTRE && to == RIGHT || from == RIGHT && to == LEFT;
        return one ? 1 : -1;
    }

    private static int twistsOf(int[] places, int moves) {
        int twists = 0;
        for (int at = 2; at < moves; at++) {
            if (wound(places[at - 1], places[at]) != wound(places[at - 2], places[at - 1])) {
                twists++;
            }
        }
        return twists;
    }

    /** Each pair that falls out has one of either way, and pairs fall out while both ways are there. */
    private static int leftOf(int[] places, int moves) {
        int more = 0;
        for (int at = 1; at < moves; at++) {
            more += wound(places[at - 1], places[at]);
        }
        return more < 0 ? -more : more;
    }

    /** The front as one number: its places, each one higher, as digits of base 4, the first one lowest. */
    private static int frontOf(int[] places, int moves, int start) {
        int front = 0;
        int shift = 0;
        int seen = 0;
        for (int at = moves - 1; at >= 0; at--) {
            int bit = 1 << places[at];
            if (((start + at) & 1) == OUT && (seen & bit) == 0) {
                seen |= bit;
                front |= (places[at] + 1) << shift;
                shift += 2;
            }
        }
        return front;
    }

    private static int frontPlace(int front, int i) {
        return ((front >> (2 * i)) & 3) - 1;
    }

    /** A tie and the moves that are laid with it. */
    private static final class Knot {
        int start = 0;
        int thick = 1;
        int cloth = 1;
        int moves = 0;
        boolean through = false;
        final int[] places = new int[MOST_MOVES];

        void begin(int newStart, int newThick, int newCloth) {
            start = newStart;
            thick = newThick;
            cloth = newCloth;
            moves = 0;
            through = false;
        }

        void copyFrom(Knot other) {
            start = other.start;
            thick = other.thick;
            cloth = other.cloth;
            moves = other.moves;
            through = other.through;
            System.arraycopy(other.places, 0, places, 0, MOST_MOVES);
        }

        int side(int at) {
            return (start + at) & 1;
        }

        int lastPlace() {
            return moves > 0 ? places[moves - 1] : NONE;
        }

        void push(int place) {
            if (moves < MOST_MOVES) {
                places[moves] = place;
                moves++;
            }
        }

        void pop() {
            if (moves > 0) {
                moves--;
            }
        }

        void swapSides() {
            for (int at = 0; at < moves; at++) {
                places[at] = mirrored(places[at]);
            }
        }
    }

    /** What can be undone, the latest last. */
    private static final class UndoLog {
        int size = 0;
        final int[] kinds = new int[MOST_UNDONE];
        final int[] knots = new int[MOST_UNDONE];
        /** Of a draw the place of the move that went, NONE if the knot was through; of others NONE. */
        final int[] places = new int[MOST_UNDONE];

        void clear() {
            size = 0;
        }

        void add(int kind, int knot, int place) {
            if (size == MOST_UNDONE) {
                dropOldest();
            }
            kinds[size] = kind;
            knots[size] = knot;
            places[size] = place;
            size++;
        }

        private void dropOldest() {
            for (int i = 1; i < MOST_UNDONE; i++) {
                kinds[i - 1] = kinds[i];
                knots[i - 1] = knots[i];
                places[i - 1] = places[i];
            }
            size = MOST_UNDONE - 1;
        }

        void copyFrom(UndoLog other) {
            size = other.size;
            System.arraycopy(other.kinds, 0, kinds, 0, MOST_UNDONE);
            System.arraycopy(other.knots, 0, knots, 0, MOST_UNDONE);
            System.arraycopy(other.places, 0, places, 0, MOST_UNDONE);
        }
    }

    /** All that images keep, and the undo log beside it. */
    private static final class Drawer {
        final Knot[] knots = new Knot[MOST_KNOTS];
        int knotCount = 0;
        final int[] boys = new int[MOST_BOYS];
        int boyCount = 0;
        final int[] sightMoves = new int[MOST_SIGHTS];
        final int[] sightPlaces = new int[MOST_SIGHTS];
        int sightCount = 0;
        final int[] terms = new int[3];
        final Script[] laws = new Script[MOST_LAWS];
        int lawCount = 0;
        int inForce = NONE;
        final UndoLog log = new UndoLog();

        Drawer() {
            for (int i = 0; i < MOST_KNOTS; i++) {
                knots[i] = new Knot();
            }
            terms[NEED] = 3;
            terms[THICK] = 2;
        }

        Knot knotAt(int knot) {
            return knot >= 0 && knot < knotCount ? knots[knot] : null;
        }

        Script lawInForce() {
            return inForce >= 0 && inForce < lawCount ? laws[inForce] : null;
        }

        boolean addKnot(int start, int thick, int cloth) {
            if (knotCount >= MOST_KNOTS) {
                return false;
            }
            knots[knotCount].begin(start, thick, cloth);
            knotCount++;
            return true;
        }

        boolean addBoy(int cloth) {
            if (boyCount >= MOST_BOYS) {
                return false;
            }
            boys[boyCount] = cloth;
            boyCount++;
            return true;
        }

        boolean addSight(int move, int place) {
            if (sightCount >= MOST_SIGHTS) {
                return false;
            }
            sightMoves[sightCount] = move;
            sightPlaces[sightCount] = place;
            sightCount++;
            return true;
        }

        void addLaw(Script law) {
            if (lawCount < MOST_LAWS) {
                laws[lawCount] = law;
                lawCount++;
            }
        }

        void copyFrom(Drawer other) {
            knotCount = other.knotCount;
            for (int i = 0; i < knotCount; i++) {
                knots[i].copyFrom(other.knots[i]);
            }
            boyCount = other.boyCount;
            System.arraycopy(other.boys, 0, boys, 0, MOST_BOYS);
            sightCount = other.sightCount;
            System.arraycopy(other.sightMoves, 0, sightMoves, 0, MOST_SIGHTS);
            System.arraycopy(other.sightPlaces, 0, sightPlaces, 0, MOST_SIGHTS);
            System.arraycopy(other.terms, 0, terms, 0, 3);
            lawCount = other.lawCount;
            for (int i = 0; i < lawCount; i++) {
                laws[i] = other.laws[i];
            }
            inForce = other.inForce;
            log.copyFrom(other.log);
        }
    }

    /**
     * A text that was read: for each clause the code of its first sum, its second one and its test, in this order
     * behind one another. A part that it has not is an empty run of code.
     */
    private static final class Script {
        static final int PUSH = 0;
        static final int WORD = 1;
        static final int NOT = 2;
        static final int SKIP_IF_SO = 3;
        static final int SKIP_IF_NOT = 4;
        static final int ADD = 5;
        static final int SUBTRACT = 6;
        static final int TIMES = 7;
        static final int DIVIDE = 8;
        static final int REST = 9;
        static final int LESS = 10;
        static final int MORE = 11;
        static final int SAME = 12;
        /** 50 parts, 49 signs between them, and a comparison, a "not" and a skip for each two parts are fewer. */
        static final int LONGEST = 256;
        private static final int FAR = 1000000000;

        final int[] ops;
        final int[] args;
        int size = 0;
        int clauses = 0;
        final int[] kinds;
        final int[] times;
        final int[] firstAt;
        final int[] secondAt;
        final int[] testAt;
        final int[] endAt;

        Script(int length, int clauseRoom) {
            ops = new int[length];
            args = new int[length];
            kinds = new int[clauseRoom];
            times = new int[clauseRoom];
            firstAt = new int[clauseRoom];
            secondAt = new int[clauseRoom];
            testAt = new int[clauseRoom];
            endAt = new int[clauseRoom];
        }

        /** A copy just as long as it must be: the draft itself is written over by the next text. */
        Script kept() {
            Script copy = new Script(size, clauses);
            System.arraycopy(ops, 0, copy.ops, 0, size);
            System.arraycopy(args, 0, copy.args, 0, size);
            copy.size = size;
            System.arraycopy(kinds, 0, copy.kinds, 0, clauses);
            System.arraycopy(times, 0, copy.times, 0, clauses);
            System.arraycopy(firstAt, 0, copy.firstAt, 0, clauses);
            System.arraycopy(secondAt, 0, copy.secondAt, 0, clauses);
            System.arraycopy(testAt, 0, copy.testAt, 0, clauses);
            System.arraycopy(endAt, 0, copy.endAt, 0, clauses);
            copy.clauses = clauses;
            return copy;
        }

        int emit(int op, int arg) {
            if (size < ops.length) {
                ops[size] = op;
                args[size] = arg;
                size++;
            }
            return size - 1;
        }

        /** The skip at that place goes to what is emitted next. */
        void closeSkip(int at) {
            if (at >= 0 && at < size) {
                args[at] = size - at - 1;
            }
        }

        /** A sum, or 1 for a test that is so and 0 for one that is not; BROKEN. An empty run is so. */
        int reckon(int from, int to, int[] words, int[] stack) {
            if (from >= to) {
                return 1;
            }
            int top = 0;
            for (int at = from; at < to; at++) {
                int op = ops[at];
                int arg = args[at];
                if (op == PUSH || op == WORD) {
                    if (top >= stack.length || op == WORD && (arg < 0 || arg >= words.length)) {
                        return BROKEN;
                    }
                    stack[top] = op == PUSH ? arg : words[arg];
                    top++;
                } else if (top < 1 || op >= ADD && top < 2) {
                    return BROKEN;
                } else if (op == NOT) {
                    stack[top - 1] = 1 - stack[top - 1];
                } else if (op == SKIP_IF_SO || op == SKIP_IF_NOT) {
                    boolean so = stack[top - 1] == 1;
                    if (so == (op == SKIP_IF_SO)) {
                        at += Math.max(arg, 0);
                    } else {
                        top--;
                    }
                } else {
                    top--;
                    stack[top - 1] = joined(op, stack[top - 1], stack[top]);
                    if (stack[top - 1] == BROKEN) {
                        return BROKEN;
                    }
                }
            }
            return stack[0];
        }

        private static int joined(int op, long left, long right) {
            long value;
            switch (op) {
                case ADD: value = left + right; break;
                case SUBTRACT: value = left - right; break;
                case TIMES: value = left * right; break;
                case DIVIDE: value = right == 0 ? BROKEN : left / right; break;
                case REST: value = right == 0 ? BROKEN : left % right; break;
                case LESS: value = left < right ? 1 : 0; break;
                case MORE: value = left > right ? 1 : 0; break;
                default: value = left == right ? 1 : 0; break;
            }
            return value < -FAR || value > FAR ? BROKEN : (int) value;
        }
    }

    /** Reads texts of both languages. */
    private static final class Reader {
        /** Kinds of tokens: 0 .. 255 single bytes, these, and the keywords in the order of their rows. */
        private static final int NUMBER = 256;
        private static final int TEXT_END = 257;
        private static final int STRANGE = 258;
        /** Stands for every token behind a fault, so that nothing can go on. */
        private static final int FAILED = 259;
        private static final String SHARED_AND_LAWS = "takes grips bars if or and not place side at before thick mood";
        private static final String ORDERS = "lay on through draw mirror times knots done latest many end cloth";
        static final int TAKES = 300;
        static final int GRIPS = 301;
        static final int BARS = 302;
        private static final int IF = 303;
        private static final int OR = 304;
        private static final int AND = 305;
        private static final int NOT = 306;
        private static final int FIRST_LAW_WORD = 307;
        private static final int LAST_LAW_WORD = 312;
        static final int LAY = 313;
        private static final int ON = 314;
        static final int THROUGH = 315;
        static final int DRAW = 316;
        static final int MIRROR = 317;
        private static final int TIMES = 318;
        private static final int FIRST_ORDER_WORD = 319;
        private static final int MANY = 322;
        private static final int CLOTH = 324;

        private static final int MOST_NUMBER = 1000;
        private static final int MOST_TIMES = 20;
        private static final int MOST_PARTS = 50;
        private static final int MOST_BRACKETS = 8;

        final Script draft = new Script(Script.LONGEST, MOST_CLAUSES);
        private final int[] kinds = new int[LONGEST_TAPE + 1];
        private final int[] starts = new int[LONGEST_TAPE + 1];
        private final int[] numbers = new int[LONGEST_TAPE + 1];
        private int tokens = 0;
        private int now = 0;
        private int kind = TEXT_END;
        private int fault = NONE;
        private int parts = 0;
        private boolean ofLaw = true;

        /** The text's fault, NONE without; the draft has what was read then. */
        int read(int[] bytes, int length, boolean aLaw) {
            scan(bytes, length);
            ofLaw = aLaw;
            now = 0;
            kind = kinds[0];
            fault = NONE;
            parts = 0;
            draft.size = 0;
            draft.clauses = 0;
            boolean more = true;
            for (int c = 0; c < MOST_CLAUSES && more; c++) {
                clause(c);
                more = kind == ';';
                if (more) {
                    advance();
                }
            }
            if (more || kind != TEXT_END) {
                fail();
            }
            return fault;
        }

        private void scan(int[] bytes, int length) {
            tokens = 0;
            int to = 0;
            for (int at = 0; at < length; at++) {
                if (at >= to) {
                    to = rowEnd(bytes, at, length);
                    if (bytes[at] != ' ') {
                        addToken(bytes, at, to);
                    }
                }
            }
            kinds[tokens] = TEXT_END;
            starts[tokens] = length;
            numbers[tokens] = 0;
            tokens++;
        }

        private static boolean isLetter(int sign) {
            return sign >= 'a' && sign <= 'z';
        }

        private static boolean isDigit(int sign) {
            return sign >= '0' && sign <= '9';
        }

        /** Where the token that begins there ends. */
        private static int rowEnd(int[] bytes, int at, int length) {
            boolean letters = isLetter(bytes[at]);
            boolean digits = isDigit(bytes[at]);
            int to = at + 1;
            while (to < length && (letters && isLetter(bytes[to]) || digits && isDigit(bytes[to]))) {
                to++;
            }
            return to;
        }

        private void addToken(int[] bytes, int from, int to) {
            starts[tokens] = from;
            numbers[tokens] = 0;
            if (isLetter(bytes[from])) {
                int shared = keyword(SHARED_AND_LAWS, TAKES, bytes, from, to);
                kinds[tokens] = shared != STRANGE ? shared : keyword(ORDERS, LAY, bytes, from, to);
            } else if (isDigit(bytes[from])) {
                kinds[tokens] = NUMBER;
                numbers[tokens] = numberOf(bytes, from, to);
            } else {
                kinds[tokens] = bytes[from];
            }
            tokens++;
        }

        /** Any number beyond the greatest that can be is told as the one above it. */
        private static int numberOf(int[] bytes, int from, int to) {
            int number = 0;
            for (int at = from; at < to; at++) {
                number = Math.min(number * 10 + bytes[at] - '0', MOST_NUMBER + 1);
            }
            return number;
        }

        /** The kind of the word in a row of keywords of which the first is of kind first. */
        private static int keyword(String row, int first, int[] bytes, int from, int to) {
            int kind = first;
            int at = from;
            boolean same = true;
            for (int i = 0; i <= row.length(); i++) {
                if (i == row.length() || row.charAt(i) == ' ') {
                    if (same && at == to) {
                        return kind;
                    }
                    kind++;
                    at = from;
                    same = true;
                } else {
                    same = same && at < to && bytes[at] == row.charAt(i);
                    at++;
                }
            }
            return STRANGE;
        }

        private void advance() {
            if (now + 1 < tokens && kind != FAILED) {
                now++;
                kind = kinds[now];
            }
        }

        private void fail() {
            if (fault == NONE) {
                fault = starts[now];
                kind = FAILED;
            }
        }

        private void clause(int c) {
            draft.clauses = c + 1;
            draft.kinds[c] = kind;
            draft.times[c] = 1;
            draft.firstAt[c] = draft.size;
            if (ofLaw && kind == BARS) {
                advance();
            } else if (ofLaw ? kind == TAKES || kind == GRIPS : kind >= LAY && kind <= MIRROR && kind != ON) {
                advance();
                sum(0);
            } else {
                fail();
            }
            draft.secondAt[c] = draft.size;
            if (draft.kinds[c] == LAY) {
                if (kind == ON) {
                    advance();
                    sum(0);
                } else {
                    fail();
                }
            }
            draft.testAt[c] = draft.size;
            if (!ofLaw && kind == TIMES) {
                advance();
                draft.times[c] = numbers[now];
                if (kind == NUMBER && numbers[now] >= 1 && numbers[now] <= MOST_TIMES) {
                    advance();
                } else {
                    fail();
                }
            }
            if (kind == IF) {
                advance();
                test(0);
            }
            draft.endAt[c] = draft.size;
        }

        /** Both levels of a test, "or" above "and"; depth tells the brackets that are open, as in all below. */
        private void test(int depth) {
            int orSkip = NONE;
            boolean more = true;
            for (int i = 0; i <= LONGEST_TAPE && more; i++) {
                plain(depth);
                for (int j = 0; j <= LONGEST_TAPE && kind == AND; j++) {
                    int andSkip = draft.emit(Script.SKIP_IF_NOT, 0);
                    advance();
                    plain(depth);
                    draft.closeSkip(andSkip);
                }
                draft.closeSkip(orSkip);
                more = kind == OR;
                if (more) {
                    orSkip = draft.emit(Script.SKIP_IF_SO, 0);
                    advance();
                }
            }
        }

        private void plain(int depth) {
            boolean negated = false;
            for (int i = 0; i <= LONGEST_TAPE && kind == NOT; i++) {
                negated = !negated;
                advance();
            }
            if (kind == '(' && depth < MOST_BRACKETS) {
                advance();
                test(depth + 1);
                if (kind == ')') {
                    advance();
                } else {
                    fail();
                }
            } else {
                sum(depth);
                int op = kind == '<' ? Script.LESS : kind == '>' ? Script.MORE : kind == '=' ? Script.SAME : NONE;
                if (op != NONE) {
                    advance();
                    sum(depth);
                    draft.emit(op, 0);
                } else {
                    fail();
                }
            }
            if (negated) {
                draft.emit(Script.NOT, 0);
            }
        }

        /** Both levels of a sum. */
        private void sum(int depth) {
            int waiting = NONE;
            boolean more = true;
            for (int i = 0; i <= LONGEST_TAPE && more; i++) {
                part(depth);
                for (int j = 0; j <= LONGEST_TAPE && (kind == '*' || kind == '/' || kind == '%'); j++) {
                    int op = kind == '*' ? Script.TIMES : kind == '/' ? Script.DIVIDE : Script.REST;
                    advance();
                    part(depth);
                    draft.emit(op, 0);
                }
                if (waiting != NONE) {
                    draft.emit(waiting, 0);
                }
                more = kind == '+' || kind == '-';
                waiting = kind == '+' ? Script.ADD : Script.SUBTRACT;
                if (more) {
                    advance();
                }
            }
        }

        private void part(int depth) {
            if (kind == '[' && depth < MOST_BRACKETS) {
                advance();
                sum(depth + 1);
                if (kind == ']') {
                    advance();
                } else {
                    fail();
                }
                return;
            }
            boolean number = kind == NUMBER && numbers[now] <= MOST_NUMBER;
            int word = wordNow();
            if (parts >= MOST_PARTS || !number && word == NONE) {
                fail();
                return;
            }
            parts++;
            if (number) {
                draft.emit(Script.PUSH, numbers[now]);
                advance();
                return;
            }
            boolean ofKnot = !ofLaw && kind >= MANY;
            advance();
            if (ofKnot) {
                word += numbers[now];
                if (kind == NUMBER && numbers[now] < MOST_KNOTS) {
                    advance();
                } else {
                    fail();
                }
            }
            draft.emit(Script.WORD, word);
        }

        /** Where the word's value is in the row of words of its language; NONE if the token is none of its words. */
        private int wordNow() {
            if (ofLaw) {
                return kind >= FIRST_LAW_WORD && kind <= LAST_LAW_WORD ? kind - FIRST_LAW_WORD : NONE;
            }
            if (kind < FIRST_ORDER_WORD || kind > CLOTH) {
                return NONE;
            }
            return kind < MANY ? kind - FIRST_ORDER_WORD : Runner.FIRST_OF_KNOT + (kind - MANY) * MOST_KNOTS;
        }
    }

    /** Asks a law about moves. */
    private static final class Judge {
        private static final int PLACE = 0;
        private static final int SIDE = 1;
        private static final int AT = 2;
        private static final int BEFORE = 3;
        private static final int THICKNESS = 4;
        private static final int TEMPER = 5;

        private final int[] words = new int[6];
        private final int[] stack = new int[STACK];
        int takes = 0;
        int grips = 0;
        boolean barred = false;
        int allTake = 0;
        int allGrip = 0;

        void ask(Script law, int mood, int thick, int side, int at, int before, int place) {
            takes = 2 + thick;
            grips = 1;
            barred = false;
            if (law == null) {
                return;
            }
            words[PLACE] = place;
            words[SIDE] = side;
            words[AT] = at;
            words[BEFORE] = before;
            words[THICKNESS] = thick;
            words[TEMPER] = mood;
            for (int c = 0; c < law.clauses; c++) {
                int so = law.reckon(law.testAt[c], law.endAt[c], words, stack);
                int told = so == 1 ? law.reckon(law.firstAt[c], law.secondAt[c], words, stack) : BROKEN;
                if (told == BROKEN) {
                    continue;
                }
                if (law.kinds[c] == Reader.TAKES) {
                    takes = nearest(told, 0, 20);
                } else if (law.kinds[c] == Reader.GRIPS) {
                    grips = nearest(told, -9, 9);
                } else {
                    barred = true;
                }
            }
        }

        private static int nearest(int value, int least, int most) {
            return value < least ? least : value > most ? most : value;
        }

        /** Of the move that would come next on a tie. */
        void askNext(Drawer drawer, Knot tie, int place) {
            int at = tie.moves;
            ask(drawer.lawInForce(), drawer.terms[MOOD], tie.thick, tie.side(at), at, tie.lastPlace(), place);
        }

        /** Of all moves of a tie together. */
        void weigh(Drawer drawer, Knot tie) {
            Script law = drawer.lawInForce();
            int before = NONE;
            allTake = 0;
            allGrip = 0;
            for (int at = 0; at < tie.moves; at++) {
                ask(law, drawer.terms[MOOD], tie.thick, tie.side(at), at, before, tie.places[at]);
                allTake += takes;
                allGrip += grips;
                before = tie.places[at];
            }
        }
    }

    /** Where ties are tied: each act answers the number of moves, or why it is refused. */
    private static final class Table {
        final Drawer drawer;
        final Judge judge;
        private final Drawer ahead = new Drawer();

        Table(Drawer drawer, Judge judge) {
            this.drawer = drawer;
            this.judge = judge;
        }

        void remember() {
            ahead.copyFrom(drawer);
        }

        void giveBack() {
            drawer.copyFrom(ahead);
        }

        int layOn(int knot, int place) {
            if (!isPlace(place)) {
                return BAD_NUMBER;
            }
            Knot tie = drawer.knotAt(knot);
            if (tie == null) {
                return NO_SUCH;
            }
            if (tie.through || tie.lastPlace() == place) {
                return CANNOT;
            }
            if (tie.moves >= MOST_MOVES) {
                return NO_ROOM;
            }
            judge.weigh(drawer, tie);
            judge.askNext(drawer, tie, place);
            if (judge.barred || judge.allTake + judge.takes > tie.cloth) {
                return CANNOT;
            }
            tie.push(place);
            drawer.log.add(BY_LAY, knot, NONE);
            return tie.moves;
        }

        int putThrough(int knot) {
            Knot tie = drawer.knotAt(knot);
            if (tie == null) {
                return NO_SUCH;
            }
            if (tie.through || !canGoThrough(tie.places, tie.moves, tie.start)) {
                return CANNOT;
            }
            tie.through = true;
            drawer.log.add(BY_THROUGH, knot, NONE);
            return tie.moves;
        }

        int drawBack(int knot) {
            Knot tie = drawer.knotAt(knot);
            if (tie == null) {
                return NO_SUCH;
            }
            if (tie.moves == 0) {
                return CANNOT;
            }
            drawer.log.add(BY_DRAW, knot, tie.through ? NONE : tie.lastPlace());
            if (tie.through) {
                tie.through = false;
            } else {
                tie.pop();
            }
            return tie.moves;
        }

        int turnOver(int knot) {
            Knot tie = drawer.knotAt(knot);
            if (tie == null) {
                return NO_SUCH;
            }
            tie.swapSides();
            drawer.log.add(BY_MIRROR, knot, NONE);
            return tie.moves;
        }

        int undoLatest() {
            UndoLog log = drawer.log;
            Knot tie = log.size > 0 ? drawer.knotAt(log.knots[log.size - 1]) : null;
            if (tie == null) {
                return CANNOT;
            }
            log.size--;
            int kind = log.kinds[log.size];
            int place = log.places[log.size];
            if (kind == BY_LAY) {
                tie.pop();
            } else if (kind == BY_THROUGH) {
                tie.through = false;
            } else if (kind == BY_MIRROR) {
                tie.swapSides();
            } else if (place == NONE) {
                tie.through = true;
            } else {
                tie.push(place);
            }
            return kind;
        }
    }

    /** Runs orders at a table, wholly or not at all. */
    private static final class Runner {
        private static final int KNOTS = 0;
        private static final int DONE = 1;
        private static final int LATEST = 2;
        /** From here on "many" of each knot, then "end" of each, then "cloth" of each. */
        static final int FIRST_OF_KNOT = 3;

        private final Table table;
        private final int[] words = new int[FIRST_OF_KNOT + 3 * MOST_KNOTS];
        private final int[] stack = new int[STACK];
        int stopped = NONE;

        Runner(Table table) {
            this.table = table;
        }

        /** How many were run, or CANNOT. */
        int run(Script orders) {
            words[DONE] = 0;
            words[LATEST] = NONE;
            table.remember();
            for (int c = 0; c < orders.clauses; c++) {
                for (int time = 0; time < orders.times[c]; time++) {
                    if (!runOnce(orders, c)) {
                        stopped = c;
                        table.giveBack();
                        return CANNOT;
                    }
                }
            }
            return words[DONE];
        }

        /** False if it can't be; one that is not to be run can be. */
        private boolean runOnce(Script orders, int c) {
            loadWords(orders, c);
            if (orders.reckon(orders.testAt[c], orders.endAt[c], words, stack) != 1) {
                return true;
            }
            int first = orders.reckon(orders.firstAt[c], orders.secondAt[c], words, stack);
            int second = orders.reckon(orders.secondAt[c], orders.testAt[c], words, stack);
            if (first == BROKEN || second == BROKEN) {
                return false;
            }
            int told;
            switch (orders.kinds[c]) {
                case Reader.LAY: told = table.layOn(second, first); break;
                case Reader.THROUGH: told = table.putThrough(first); break;
                case Reader.DRAW: told = table.drawBack(first); break;
                default: told = table.turnOver(first); break;
            }
            if (told < 0) {
                return false;
            }
            words[DONE]++;
            words[LATEST] = told;
            return true;
        }

        /** Only the words that the clause has: to weigh every knot each time would be dear. */
        private void loadWords(Script orders, int c) {
            Drawer drawer = table.drawer;
            words[KNOTS] = drawer.knotCount;
            for (int at = orders.firstAt[c]; at < orders.endAt[c]; at++) {
                int word = orders.args[at];
                if (orders.ops[at] != Script.WORD || word < FIRST_OF_KNOT || word >= words.length) {
                    continue;
                }
                Knot tie = drawer.knotAt((word - FIRST_OF_KNOT) % MOST_KNOTS);
                int asked = (word - FIRST_OF_KNOT) / MOST_KNOTS;
                if (tie == null) {
                    words[word] = NONE;
                } else if (asked == 0) {
                    words[word] = tie.moves;
                } else if (asked == 1) {
                    words[word] = tie.lastPlace();
                } else {
                    table.judge.weigh(drawer, tie);
                    words[word] = tie.cloth - table.judge.allTake;
                }
            }
        }
    }

    /** All proper words of each length, in their order, kept until law, mood or thickness are others. */
    private static final class Paper {
        private static final int ROOM = 2046;
        private static final int CELLS = 2 * MOST_MOVES * (PLACES + 1) * PLACES;

        private final Judge judge;
        private Script law = null;
        private int mood = NONE;
        private int thick = NONE;
        /** By start, move, place ahead and place. */
        private final int[] cellTakes = new int[CELLS];
        private final int[] cellGrips = new int[CELLS];
        private final boolean[] cellBarred = new boolean[CELLS];
        private final boolean[] cellsReady = new boolean[2];
        /** How many proper words of each length there are; NONE: not looked for yet. */
        final int[] counts = new int[MOST_MOVES + 1];
        /** Words as numbers of base 4, the first place highest, so that their order is that of the numbers. */
        private final int[] words = new int[ROOM];
        private final int[] wordTakes = new int[ROOM];
        private final int[] wordGrips = new int[ROOM];
        private final int[] places = new int[MOST_MOVES];
        private final int[] tally = new int[64];
        int chosen = NONE;
        int unlikeFronts = 0;
        int commonestFront = 0;

        Paper(Judge judge) {
            this.judge = judge;
        }

        /** Must be called ahead of any question about words of n moves. */
        void prepare(Drawer drawer, int n) {
            if (mood != drawer.terms[MOOD] || thick != drawer.terms[THICK] || law != drawer.lawInForce()) {
                mood = drawer.terms[MOOD];
                thick = drawer.terms[THICK];
                law = drawer.lawInForce();
                for (int length = 0; length <= MOST_MOVES; length++) {
                    counts[length] = NONE;
                }
                cellsReady[0] = false;
                cellsReady[1] = false;
            }
            if (counts[n] == NONE) {
                fillCells(startOfWord(n));
                counts[n] = 0;
                extend(n, 0, 0, 0, 0);
            }
        }

        private static int cell(int start, int at, int before, int place) {
            return ((start * MOST_MOVES + at) * (PLACES + 1) + before + 1) * PLACES + place;
        }

        private void fillCells(int start) {
            if (cellsReady[start]) {
                return;
            }
            cellsReady[start] = true;
            for (int at = 0; at < MOST_MOVES; at++) {
                for (int before = NONE; before < PLACES; before++) {
                    for (int place = 0; place < PLACES; place++) {
                        if ((at == 0) == (before == NONE) && before != place) {
                            fillCell(start, at, before, place);
                        }
                    }
                }
            }
        }

        private void fillCell(int start, int at, int before, int place) {
            int cell = cell(start, at, before, place);
            judge.ask(law, mood, thick, (start + at) & 1, at, before, place);
            cellTakes[cell] = judge.takes;
            cellGrips[cell] = judge.grips;
            cellBarred[cell] = judge.barred;
        }

        /** Goes on with all proper words of n moves of which the first ones stand; as deep as n at most. */
        private void extend(int n, int at, int word, int takes, int grips) {
            if (at >= n) {
                keep(n, word, takes, grips);
                return;
            }
            for (int place = 0; place < PLACES; place++) {
                extendBy(place, n, at, word, takes, grips);
            }
        }

        private void extendBy(int place, int n, int at, int word, int takes, int grips) {
            int before = at == 0 ? NONE : word & 3;
            int cell = cell(startOfWord(n), at, before, place);
            if (place != before && mayStand(n, at, place) && !cellBarred[cell]) {
                extend(n, at + 1, word * 4 + place, takes + cellTakes[cell], grips + cellGrips[cell]);
            }
        }

        /** By the rule for its end: two that are not the centre, which are unlike as neighbours, and the centre. */
        private static boolean mayStand(int n, int at, int place) {
            return at == n - 1 ? place == CENTRE : at < n - 3 || place != CENTRE;
        }

        private void keep(int n, int word, int takes, int grips) {
            int slot = firstSlot(n) + counts[n];
            if (slot < ROOM) {
                words[slot] = word;
                wordTakes[slot] = takes;
                wordGrips[slot] = grips;
                counts[n]++;
            }
        }

        /** Of n moves there are at most 2 to the power n - 2 proper words. */
        private static int firstSlot(int n) {
            return (1 << (n - 2)) - 2;
        }

        private static int placeOf(int word, int n, int k) {
            return (word >> (2 * (n - 1 - k))) & 3;
        }

        int placeIn(int n, int i, int k) {
            return placeOf(words[firstSlot(n) + i], n, k);
        }

        int takesIn(int n, int i) {
            return wordTakes[firstSlot(n) + i];
        }

        int gripsIn(int n, int i) {
            return wordGrips[firstSlot(n) + i];
        }

        private void spell(int n, int i) {
            int word = words[firstSlot(n) + i];
            for (int k = 0; k < n; k++) {
                places[k] = placeOf(word, n, k);
            }
        }

        int leanIn(int n, int i) {
            spell(n, i);
            return Math.abs(leanOf(places, n));
        }

        int twistsIn(int n, int i) {
            spell(n, i);
            return twistsOf(places, n);
        }

        int howMany(int n, int centres) {
            int found = 0;
            for (int i = 0; i < counts[n]; i++) {
                spell(n, i);
                if (centres == NONE || centresOf(places, n) == centres) {
                    found++;
                }
            }
            return found;
        }

        /** Which proper word of n moves these are; NONE. */
        int find(int[] asked, int n) {
            int word = 0;
            for (int k = 0; k < n; k++) {
                word = word * 4 + asked[k];
            }
            int low = 0;
            int high = counts[n];
            for (int step = 0; step <= MOST_MOVES && low < high; step++) {
                int middle = (low + high) >> 1;
                if (words[firstSlot(n) + middle] < word) {
                    low = middle + 1;
                } else {
                    high = middle;
                }
            }
            return low < counts[n] && words[firstSlot(n) + low] == word ? low : NONE;
        }

        /** How many moves the best has, NONE if there is none; which of these it is is chosen. */
        int chooseBest(Drawer drawer, int cloth) {
            int bestLength = NONE;
            int bestMerit = 0;
            for (int n = LEAST_WORD; n <= MOST_MOVES; n++) {
                prepare(drawer, n);
                for (int i = 0; i < counts[n]; i++) {
                    if (takesIn(n, i) > cloth || gripsIn(n, i) < drawer.terms[NEED]) {
                        continue;
                    }
                    spell(n, i);
                    int merit = twistsOf(places, n) - 16 * Math.abs(leanOf(places, n));
                    if (bestLength == NONE || merit > bestMerit) {
                        bestLength = n;
                        bestMerit = merit;
                        chosen = i;
                    }
                }
            }
            return bestLength;
        }

        /** How many places of the nearest proper word are unlike, NONE if there is none; it is chosen. */
        int chooseNearest(int[] asked, int n) {
            int fewest = NONE;
            for (int i = 0; i < counts[n]; i++) {
                int unlike = 0;
                for (int k = 0; k < n; k++) {
                    unlike += placeIn(n, i, k) == asked[k] ? 0 : 1;
                }
                if (fewest == NONE || unlike < fewest) {
                    fewest = unlike;
                    chosen = i;
                }
            }
            return fewest;
        }

        private void clearTally() {
            for (int i = 0; i < tally.length; i++) {
                tally[i] = 0;
            }
        }

        void countFronts(int n) {
            clearTally();
            unlikeFronts = 0;
            commonestFront = 0;
            for (int i = 0; i < counts[n]; i++) {
                spell(n, i);
                int front = frontOf(places, n, startOfWord(n)) & 63;
                unlikeFronts += tally[front] == 0 ? 1 : 0;
                tally[front]++;
                commonestFront = Math.max(commonestFront, tally[front]);
            }
        }

        private boolean isFitting(Drawer drawer, int n, boolean mirror, int i) {
            for (int s = 0; s < drawer.sightCount; s++) {
                int move = drawer.sightMoves[s];
                int seen = mirror ? mirrored(drawer.sightPlaces[s]) : drawer.sightPlaces[s];
                if (move < n && placeIn(n, i, move) != seen) {
                    return false;
                }
            }
            return true;
        }

        int countFitting(Drawer drawer, int n, boolean mirror) {
            int found = 0;
            for (int i = 0; i < counts[n]; i++) {
                found += isFitting(drawer, n, mirror, i) ? 1 : 0;
            }
            return found;
        }

        /** Which proper word is the fitting one of that number; NONE. */
        int fittingAt(Drawer drawer, int n, boolean mirror, int number) {
            int found = 0;
            for (int i = 0; i < counts[n]; i++) {
                if (isFitting(drawer, n, mirror, i)) {
                    if (found == number) {
                        return i;
                    }
                    found++;
                }
            }
            return NONE;
        }

        int whereToLook(Drawer drawer, int n, boolean mirror) {
            clearTally();
            int found = 0;
            for (int i = 0; i < counts[n]; i++) {
                if (isFitting(drawer, n, mirror, i)) {
                    found++;
                    for (int k = 0; k < n; k++) {
                        tally[k * PLACES + placeIn(n, i, k)]++;
                    }
                }
            }
            int where = NONE;
            int fewest = found + 1;
            for (int k = 0; k < n && found > 0; k++) {
                int most = Math.max(tally[k * PLACES], Math.max(tally[k * PLACES + 1], tally[k * PLACES + 2]));
                if (most < fewest) {
                    fewest = most;
                    where = k;
                }
            }
            return where;
        }
    }

    /** What the latest hands were, as they were judged when they were dealt. */
    private static final class Hands {
        private int state = 0;
        /** 0 ahead of any hands. */
        int moves = 0;
        int proper = 0;
        int strong = 0;
        int greatestLean = NONE;
        final int[] places = new int[MOST_MOVES];

        /** The paper must be prepared for words of m moves. */
        void deal(int seed, int n, int m, Paper paper, int need) {
            state = seed;
            moves = m;
            proper = 0;
            strong = 0;
            greatestLean = NONE;
            for (int i = 0; i < n; i++) {
                dealWord();
                int found = paper.find(places, m);
                if (found != NONE) {
                    proper++;
                    strong += paper.gripsIn(m, found) >= need ? 1 : 0;
                    greatestLean = Math.max(greatestLean, paper.leanIn(m, found));
                }
            }
        }

        private void dealWord() {
            places[0] = next(3);
            for (int k = 1; k < moves; k++) {
                int which = next(2);
                int before = places[k - 1];
                int lower = before == LEFT ? RIGHT : LEFT;
                int upper = before == CENTRE ? RIGHT : CENTRE;
                places[k] = which == 0 ? lower : upper;
            }
        }

        private int next(int sides) {
            state = (state * 1103 + 12345) % 1000003;
            return sides > 0 ? state % sides : 0;
        }
    }

    /** Gives knots to boys. */
    private static final class Wardrobe {
        private static final int WITHOUT = 100;
        private static final int SETS = 1 << MOST_KNOTS;

        private final int[] takes = new int[MOST_KNOTS];
        private final int[] fronts = new int[MOST_KNOTS];
        /** The knot's front as a bit, one bit for all knots of one front; 0 if it does not hold. */
        private final int[] bits = new int[MOST_KNOTS];
        /** By the boy and the fronts that are taken: how many boys from there on can be dressed. */
        private final int[] most = new int[(MOST_BOYS + 1) * SETS];
        final int[] worn = new int[MOST_BOYS];

        int dressed() {
            return most[0];
        }

        void dress(Drawer drawer, Judge judge) {
            for (int k = 0; k < drawer.knotCount; k++) {
                hang(drawer, judge, k);
            }
            for (int taken = 0; taken < SETS; taken++) {
                most[drawer.boyCount * SETS + taken] = 0;
            }
            for (int b = drawer.boyCount - 1; b >= 0; b--) {
                for (int taken = 0; taken < SETS; taken++) {
                    most[b * SETS + taken] = mostFrom(drawer, b, taken);
                }
            }
            int taken = 0;
            for (int b = 0; b < drawer.boyCount; b++) {
                worn[b] = firstFor(drawer, b, taken);
                taken |= worn[b] == WITHOUT ? 0 : bits[worn[b]];
            }
        }

        private void hang(Drawer drawer, Judge judge, int k) {
            Knot tie = drawer.knots[k];
            judge.weigh(drawer, tie);
            takes[k] = judge.allTake;
            fronts[k] = frontOf(tie.places, tie.moves, tie.start);
            bits[k] = 0;
            if (!tie.through || judge.allGrip < drawer.terms[NEED]) {
                return;
            }
            bits[k] = 1 << k;
            for (int other = 0; other < k; other++) {
                if (bits[other] != 0 && fronts[other] == fronts[k]) {
                    bits[k] = bits[other];
                }
            }
        }

        private boolean suits(int k, int cloth, int taken) {
            return bits[k] != 0 && (bits[k] & taken) == 0 && takes[k] <= cloth;
        }

        private int mostFrom(Drawer drawer, int b, int taken) {
            int best = most[(b + 1) * SETS + taken];
            for (int k = 0; k < drawer.knotCount; k++) {
                if (suits(k, drawer.boys[b], taken)) {
                    best = Math.max(best, 1 + most[(b + 1) * SETS + (taken | bits[k])]);
                }
            }
            return best;
        }

        private int firstFor(Drawer drawer, int b, int taken) {
            for (int k = 0; k < drawer.knotCount; k++) {
                if (suits(k, drawer.boys[b], taken)
                        && 1 + most[(b + 1) * SETS + (taken | bits[k])] == most[b * SETS + taken]) {
                    return k;
                }
            }
            return WITHOUT;
        }
    }
}
