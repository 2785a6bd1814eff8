/**
 * Out on tiptoe: boards that creak between a bed and a door, and a child that had better go on
 * sleeping. The numbered promises that this class keeps stand in the project's document.
 */
public final class OnTiptoe {
    public static final int NONE = -1, BAD = -2, STATE = -3, FULL = -4;
    public static final long NO = Long.MIN_VALUE;

    /** There is none: no way, no place, no BOARD. */
    private static final int NEVER = -5;
    private static final int FAULTY = -10;
    private static final int NOTHING = -11, CAST = -12, PLACE = -13, SIZE = -14;

    private static final int BOARDS = 12, WIDTH = 6, SIDES = 3;
    private static final int WALKERS = 4, KINDS = 7, MOST_V = 9;
    private static final int NIGHTS = 6, CLAUSES = 10, TEXT = 100, NESTED = 4;
    private static final int WAY = 12, SEEN = 6, BOOK = 12, ODDS = 12;
    private static final int WAIT = -2;
    private static final int SILENT_DEPTH = 8, TOY_NOISE = 9;
    /** Above all that a way can make of NOISE, together. */
    private static final int LOUDEST = 1000000;
    /** As many STIRS wake the child. */
    private static final int WAKES = 3;
    private static final int LONGEST = 30, MOST_STEPS = 8, MOST_SET = 20, MOST_DEEPER = 30;
    /** MINUTE counts only modulo 12, 3 and 4: after so many MINUTES all is as loud and deep again. */
    private static final int ROUND = 12;
    private static final int DEEP = 0, CREAKS = 1, HUSH = 2;
    private static final int NOT = -1, AND = -2, OR = -3;
    private static final int KEPT_BODIES = 20;
    private static final int TAPES = 6, ITEMS = 60, SORTS = 5, HOLDS_NOTHING = -1;
    private static final int BYTES = 0, SHORTS = 1, INTS = 2, LONGS = 3;

    private final House now = new House();
    private final House image = new House();
    private boolean imageTaken;
    private final Walker[] walkers = new Walker[WALKERS];
    private final Night[] nights = new Night[NIGHTS];
    private int nightCount;
    private final Reader reader = new Reader();
    private final Ways ways = new Ways();
    /** Who acted last, and so keeps THE TRACE; null: there is no TRACE. */
    private Walker actor;
    private final int[] tapeSort = new int[TAPES];
    private final int[] tapeLength = new int[TAPES];
    private final long[][] tapeItems = new long[TAPES][ITEMS];
    private final long[] moved = new long[ITEMS];

    public OnTiptoe() {
        for (int i = 0; i < NIGHTS; i++) {
            nights[i] = new Night();
        }
        for (int i = 0; i < TAPES; i++) {
            tapeSort[i] = HOLDS_NOTHING;
        }
    }

    // ---- boards, walkers, nights

    public int creak(int board, int n) {
        if (!isBoard(board)) {
            return NONE;
        }
        if (n < 0 || n > 9) {
            return BAD;
        }
        int was = now.creak[board];
        now.creak[board] = n;
        return was;
    }

    public int toy(int board, boolean is) {
        if (!isBoard(board)) {
            return NONE;
        }
        int was = now.toyOn(board);
        int bit = 1 << board;
        now.toys = is ? now.toys | bit : now.toys & ~bit;
        return was;
    }

    public int door(int board) {
        if (!isBoard(board)) {
            return NONE;
        }
        int was = now.door;
        now.door = board;
        return was;
    }

    public int walker(int kind, int v, int board) {
        if (kind < 0 || kind >= KINDS || !isBoard(board)) {
            return NONE;
        }
        if (v < 0 || v > MOST_V) {
            return BAD;
        }
        int number = now.walkerCount;
        if (number < 0 || number >= WALKERS) {
            return FULL;
        }
        walkers[number] = newWalker(kind, number, v, board);
        now.walkerCount = number + 1;
        return number;
    }

    public int of(int walker, int what) {
        Walker one = find(walker);
        if (one == null) {
            return NONE;
        }
        if (what == 0) {
            return one.kind();
        }
        if (what == 1) {
            return one.v;
        }
        if (what == 2) {
            return one.board;
        }
        if (what < 10 || what >= 10 + BOARDS) {
            return NONE;
        }
        return now.noise(one, what - 10, now.minute);
    }

    public int put(int walker, int board) {
        Walker one = find(walker);
        if (one == null || !isBoard(board)) {
            return NONE;
        }
        int was = one.board;
        one.board = board;
        return was;
    }

    public int row(int walker, int part, int n) {
        Walker one = find(walker);
        if (one == null || part < 0 || part >= Told.PARTS) {
            return NONE;
        }
        if (n < 0 || n > 9) {
            return BAD;
        }
        if (one instanceof Told told) {
            int was = told.row[part];
            told.row[part] = n;
            return was;
        }
        return STATE;
    }

    public int feed(int sign) {
        if (sign < 0 || sign > 127) {
            return BAD;
        }
        return reader.addSign((byte) sign) ? reader.length : FULL;
    }

    public int night() {
        if (nightCount < 0 || nightCount >= NIGHTS) {
            return FULL;
        }
        int fault = reader.readNight(nights[nightCount]);
        reader.length = 0;
        if (fault != NEVER) {
            return FAULTY - fault;
        }
        now.night = nights[nightCount];
        nightCount++;
        return nightCount - 1;
    }

    public int told(int what) {
        switch (what) {
            case 0:
                return now.minute;
            case 1:
                return now.stirs;
            case 2:
                return now.awake ? 1 : 0;
            case 3:
                return now.depth(now.minute);
            case 4:
                return now.door;
            case 5:
                return now.toys;
            default:
                return NONE;
        }
    }

    // ---- steps

    public int step(int walker, int board) {
        Walker one = find(walker);
        if (one == null || !isBoard(board)) {
            return NONE;
        }
        if (!areBeside(one.board, board)) {
            return BAD;
        }
        if (now.awake || now.minute > 9990) {
            return STATE;
        }
        now.minute += one.stepMinutes();
        one.board = board;
        int noise = now.noise(one, board, now.minute);
        int stirs = stirsBehind(noise, now.depth(now.minute), now.stirs);
        now.awake = stirs >= WAKES;
        now.stirs = now.awake ? 0 : stirs;
        return noise;
    }

    public int still(int n) {
        if (n < 0 || n > 30) {
            return BAD;
        }
        if (now.minute > 9960) {
            return STATE;
        }
        now.minute += n;
        now.stirs = Math.max(0, now.stirs - n);
        return now.minute;
    }

    public int lull() {
        int was = now.awake ? 1 : 0;
        now.awake = false;
        now.stirs = 0;
        return was;
    }

    public int way(int board) {
        if (board == -1) {
            now.wayCount = 0;
            return 0;
        }
        if (!isBoard(board) && board != WAIT) {
            return NONE;
        }
        if (now.wayCount < 0 || now.wayCount >= WAY) {
            return FULL;
        }
        now.way[now.wayCount] = board;
        now.wayCount++;
        return now.wayCount;
    }

    public int goes(int walker, int what) {
        Walker one = find(walker);
        if (one == null || what < 0 || what > 3) {
            return NONE;
        }
        ways.learn(now, one);
        int place = ways.follow(now, one.board, now.minute, now.stirs);
        switch (what) {
            case 0:
                return place;
            case 1:
                return ways.goneTo;
            case 2:
                return ways.goneMinute;
            default:
                return ways.goneStirs;
        }
    }

    // ---- ways out

    public int out(int walker) {
        Walker one = find(walker);
        if (one == null) {
            return NONE;
        }
        ways.learn(now, one);
        return ways.fewest(one.board, now.minute, now.stirs, 0);
    }

    public int quiet(int walker, int what) {
        Walker one = find(walker);
        if (one == null || what < 0 || what > 1) {
            return NONE;
        }
        ways.learn(now, one);
        ways.seekQuietest(one.board, now.minute);
        return what == 0 ? ways.quietNoise : ways.quietSteps;
    }

    public int set(int walker, int what) {
        Walker one = find(walker);
        if (one == null || what < 0 || what > 1) {
            return NONE;
        }
        ways.learn(now, one);
        int bestN = NEVER;
        int best = NEVER;
        for (int n = 0; n <= MOST_SET; n++) {
            int minutes = ways.fewest(one.board, now.minute + n, Math.max(0, now.stirs - n), 0);
            if (isFewer(minutes, best)) {
                best = minutes;
                bestN = n;
            }
        }
        return what == 0 ? bestN : best;
    }

    public int mend(int walker) {
        Walker one = find(walker);
        if (one == null) {
            return NONE;
        }
        ways.learn(now, one);
        return bestChange(one, false);
    }

    public int away(int walker) {
        Walker one = find(walker);
        if (one == null) {
            return NONE;
        }
        ways.learn(now, one);
        return bestChange(one, true);
    }

    public int from(int walker) {
        Walker one = find(walker);
        if (one == null) {
            return NONE;
        }
        ways.learn(now, one);
        int bits = 0;
        for (int board = 0; board < BOARDS; board++) {
            if (ways.fewest(board, now.minute, now.stirs, 0) != NEVER) {
                bits |= 1 << board;
            }
        }
        return bits;
    }

    public int deeper(int walker) {
        Walker one = find(walker);
        if (one == null) {
            return NONE;
        }
        ways.learn(now, one);
        // Whoever comes out comes out as well if she sleeps deeper still, so halving finds the least.
        int tooLittle = -1;
        int enough = MOST_DEEPER + 1;
        for (int i = 0; i <= MOST_DEEPER && enough - tooLittle > 1; i++) {
            int n = (tooLittle + enough) / 2;
            if (ways.fewest(one.board, now.minute, now.stirs, n) == NEVER) {
                tooLittle = n;
            } else {
                enough = n;
            }
        }
        return enough > MOST_DEEPER ? NEVER : enough;
    }

    // ---- seen, odds, books

    public int see(int board, int n, boolean woke) {
        if (board == -1) {
            now.seenCount = 0;
            return 0;
        }
        if (!isBoard(board)) {
            return NONE;
        }
        if (n < 0 || n > 30) {
            return BAD;
        }
        int place = now.seenCount;
        if (place < 0 || place >= SEEN) {
            return FULL;
        }
        now.seenBoard[place] = board;
        now.seenMinutes[place] = n;
        now.seenWoke[place] = woke ? 1 : 0;
        now.seenCount = place + 1;
        return now.seenCount;
    }

    public int who() {
        int bits = 0;
        for (int i = 0; i < now.walkerCount; i++) {
            Walker one = find(i);
            if (one != null && now.fitsSeen(one)) {
                bits |= 1 << i;
            }
        }
        return bits;
    }

    public long odds(int walker, int part) {
        Walker one = find(walker);
        if (one == null || part < 0 || part > 1) {
            return NO;
        }
        ways.learn(now, one);
        int asleep = 0;
        for (int n = 0; n < ODDS; n++) {
            if (ways.follow(now, one.board, now.minute + n, Math.max(0, now.stirs - n)) == NEVER) {
                asleep++;
            }
        }
        return fraction(asleep, ODDS, part);
    }

    public long mean(int board, int part) {
        if (!isBoard(board) || part < 0 || part > 1 || now.walkerCount < 1) {
            return NO;
        }
        int together = 0;
        for (int i = 0; i < now.walkerCount; i++) {
            Walker one = find(i);
            if (one != null) {
                together += now.noise(one, board, now.minute);
            }
        }
        return fraction(together, now.walkerCount, part);
    }

    public int book(int n) {
        if (n == -1) {
            now.bookCount = 0;
            return 0;
        }
        if (n < 0 || n > 999) {
            return BAD;
        }
        if (now.bookCount < 0 || now.bookCount >= BOOK) {
            return FULL;
        }
        now.book[now.bookCount] = n;
        now.bookCount++;
        return now.bookCount;
    }

    public int looked() {
        for (int i = 0; i < now.bookCount && i < BOOK; i++) {
            if (now.book[i] != now.depth(now.minute + i + 1)) {
                return i;
            }
        }
        return NEVER;
    }

    // ---- judging, the image, acts, tapes

    public int judge(int tape, int i) {
        if (!isTape(tape)) {
            return NONE;
        }
        if (tapeSort[tape] != HOLDS_NOTHING && tapeSort[tape] != BYTES) {
            return CAST;
        }
        int end = tapeSort[tape] == BYTES ? Math.min(tapeLength[tape], ITEMS) : 0;
        if (i < 0 || i >= end) {
            return 100;
        }
        for (int board = 0; board < BOARDS; board++) {
            int place = i + board;
            if (place >= end) {
                return 100 + board;
            }
            if (tapeItems[tape][place] != now.creak[board]) {
                return board;
            }
        }
        return NEVER;
    }

    public int image() {
        image.takeFrom(now);
        imageTaken = true;
        for (int i = 0; i < image.walkerCount; i++) {
            Walker one = find(i);
            if (one != null) {
                one.keep();
            }
        }
        return image.walkerCount;
    }

    public int undo() {
        if (!imageTaken) {
            return STATE;
        }
        now.takeFrom(image);
        // WALKERS only ever come behind the others, so those of THE IMAGE are still the first ones.
        for (int i = 0; i < now.walkerCount; i++) {
            Walker one = find(i);
            if (one != null) {
                one.goBack();
            }
        }
        return now.walkerCount;
    }

    public int act(int walker, int act, int x) {
        Walker one = find(walker);
        if (one == null || act < 0 || act > 2) {
            actor = null;
            return 0;
        }
        actor = one;
        one.ranCount = 0;
        if (act == 0) {
            return one.actTreads(x);
        }
        return act == 1 ? one.actGoes(x) : one.actTells(x);
    }

    public int trace(int i) {
        if (actor == null || i < 0 || i >= actor.ranCount || i >= KEPT_BODIES) {
            return NONE;
        }
        return actor.ran[i];
    }

    public int taken(int walker, int k) {
        if (k < 0 || k >= KINDS) {
            return BAD;
        }
        Walker one = find(walker);
        if (one == null) {
            return NOTHING;
        }
        return isOfKind(one, k) ? one.kind() : CAST;
    }

    public int count(int what) {
        switch (what) {
            case 0:
                return now.walkerCount;
            case 1:
                return nightCount;
            case 2:
                return now.wayCount;
            case 3:
                return now.seenCount;
            case 4:
                return now.bookCount;
            case 5:
                return reader.length;
            case 6:
                return actor == null ? 0 : actor.ranCount;
            default:
                return BAD;
        }
    }

    public int tape(int tape, int sort, int n) {
        if (!isTape(tape)) {
            return NONE;
        }
        if (sort == HOLDS_NOTHING) {
            tapeSort[tape] = HOLDS_NOTHING;
            tapeLength[tape] = 0;
            return 1;
        }
        if (sort < 0 || sort >= SORTS || n > ITEMS) {
            return BAD;
        }
        if (n < 0) {
            return SIZE;
        }
        tapeSort[tape] = sort;
        tapeLength[tape] = n;
        for (int i = 0; i < n; i++) {
            tapeItems[tape][i] = 0;
        }
        return 1;
    }

    public int item(int tape, int i, long v) {
        if (!isTape(tape)) {
            return NONE;
        }
        if (tapeSort[tape] == HOLDS_NOTHING) {
            return NOTHING;
        }
        if (!hasPlace(tape, i)) {
            return PLACE;
        }
        tapeItems[tape][i] = lowestBits(tapeSort[tape], v);
        return 1;
    }

    public long read(int tape, int i) {
        if (!isTape(tape) || tapeSort[tape] == HOLDS_NOTHING || !hasPlace(tape, i)) {
            return NO;
        }
        return tapeItems[tape][i];
    }

    public int shift(int tape, int i, int other, int j, int n) {
        if (!isTape(tape) || !isTape(other)) {
            return NONE;
        }
        if (tapeSort[tape] == HOLDS_NOTHING || tapeSort[other] == HOLDS_NOTHING) {
            return NOTHING;
        }
        if (tapeSort[tape] != tapeSort[other]) {
            return CAST;
        }
        if (!hasPart(tape, i, n) || !hasPart(other, j, n)) {
            return PLACE;
        }
        for (int k = 0; k < n; k++) {
            moved[k] = tapeItems[tape][i + k];
        }
        for (int k = 0; k < n; k++) {
            tapeItems[other][j + k] = moved[k];
        }
        return n;
    }

    // ---- what the calls share

    private static boolean isBoard(int board) {
        return board >= 0 && board < BOARDS;
    }

    private static boolean areBeside(int one, int other) {
        boolean found = false;
        for (int side = 0; side < SIDES; side++) {
            found |= isBoard(other) && boardBeside(one, side) == other;
        }
        return found;
    }

    /** The BOARD to the left, to the right, or in the other row; -1: there is none. */
    private static int boardBeside(int board, int side) {
        int x = board % WIDTH;
        if (side == 0) {
            return x > 0 ? board - 1 : -1;
        }
        if (side == 1) {
            return x < WIDTH - 1 ? board + 1 : -1;
        }
        return board < WIDTH ? board + WIDTH : board - WIDTH;
    }

    /** The STIRS behind a STEP; WAKES or more, if the child wakes by it. */
    private static int stirsBehind(int noise, int depth, int stirs) {
        if (noise > depth) {
            return WAKES;
        }
        return 2 * noise > depth ? stirs + 1 : stirs;
    }

    private static boolean isFewer(int minutes, int best) {
        return minutes != NEVER && (best == NEVER || minutes < best);
    }

    /** One part of above / below in lowest terms. */
    private static long fraction(int above, int below, int part) {
        int divisor = below;
        int rest = above;
        for (int i = 0; i < 64 && rest > 0; i++) {
            int next = divisor % rest;
            divisor = rest;
            rest = next;
        }
        if (divisor < 1) {
            return NO;
        }
        return part == 0 ? above / divisor : below / divisor;
    }

    /** The WALKER of a number; null: there is none. */
    private Walker find(int walker) {
        if (walker < 0 || walker >= WALKERS || walker >= now.walkerCount) {
            return null;
        }
        return walkers[walker];
    }

    private static Walker newWalker(int kind, int number, int v, int board) {
        switch (kind) {
            case 1:
                return new Heavy(number, v, board);
            case 2:
                return new Soft(number, v, board);
            case 3:
                return new Slow(number, v, board);
            case 4:
                return new Tired(number, v, board);
            case 5:
                return new Bare(number, v, board);
            case 6:
                return new Told(number, v, board);
            default:
                return new Walker(number, v, board);
        }
    }

    private static boolean isOfKind(Walker one, int kind) {
        switch (kind) {
            case 0:
                return true;
            case 1:
                return one instanceof Heavy;
            case 2:
                return one instanceof Soft;
            case 3:
                return one instanceof Slow;
            case 4:
                return one instanceof Tired;
            case 5:
                return one instanceof Bare;
            default:
                return one instanceof Told;
        }
    }

    /** The BOARD to be mended (or rid of its TOY) for one whose ways are learnt; NEVER: none would help. */
    private int bestChange(Walker one, boolean ofToys) {
        int best = ways.fewest(one.board, now.minute, now.stirs, 0);
        int bestBoard = NEVER;
        for (int board = 0; board < BOARDS; board++) {
            int creak = now.creak[board];
            int toy = now.toyOn(board);
            if (ofToys ? toy == 0 : creak == 0) {
                continue;
            }
            ways.learnBoard(now, one, board, ofToys ? creak : 0, ofToys ? 0 : toy);
            int minutes = ways.fewest(one.board, now.minute, now.stirs, 0);
            ways.learnBoard(now, one, board, creak, toy);
            if (isFewer(minutes, best)) {
                best = minutes;
                bestBoard = board;
            }
        }
        return bestBoard;
    }

    private static boolean isTape(int tape) {
        return tape >= 0 && tape < TAPES;
    }

    private boolean hasPlace(int tape, int i) {
        return i >= 0 && i < tapeLength[tape] && i < ITEMS;
    }

    private boolean hasPart(int tape, int i, int n) {
        int length = Math.min(tapeLength[tape], ITEMS);
        return n >= 0 && i >= 0 && n <= length && i <= length - n;
    }

    private static long lowestBits(int sort, long v) {
        switch (sort) {
            case BYTES:
                return (byte) v;
            case SHORTS:
                return (short) v;
            case INTS:
                return (int) v;
            case LONGS:
                return v;
            default:
                return v != 0 ? 1 : 0;
        }
    }

    /** What THE IMAGE keeps, but for what the WALKERS keep themselves. */
    static final class House {
        final int[] creak = new int[BOARDS];
        int toys;
        int door = 11;
        int walkerCount;
        int minute;
        int stirs;
        boolean awake;
        final int[] way = new int[WAY];
        int wayCount;
        final int[] seenBoard = new int[SEEN];
        final int[] seenMinutes = new int[SEEN];
        final int[] seenWoke = new int[SEEN];
        int seenCount;
        final int[] book = new int[BOOK];
        int bookCount;
        /** The NIGHT that holds; null: none does. */
        Night night;
        /** What the letters m, x, y, c, k, t stand for, while a NIGHT is asked. */
        private final int[] facts = new int[6];

        House() {
            for (int board = 0; board < BOARDS; board++) {
                creak[board] = 3;
            }
        }

        void takeFrom(House other) {
            System.arraycopy(other.creak, 0, creak, 0, BOARDS);
            toys = other.toys;
            door = other.door;
            walkerCount = other.walkerCount;
            minute = other.minute;
            stirs = other.stirs;
            awake = other.awake;
            System.arraycopy(other.way, 0, way, 0, WAY);
            wayCount = other.wayCount;
            System.arraycopy(other.seenBoard, 0, seenBoard, 0, SEEN);
            System.arraycopy(other.seenMinutes, 0, seenMinutes, 0, SEEN);
            System.arraycopy(other.seenWoke, 0, seenWoke, 0, SEEN);
            seenCount = other.seenCount;
            System.arraycopy(other.book, 0, book, 0, BOOK);
            bookCount = other.bookCount;
            night = other.night;
        }

        int toyOn(int board) {
            return toys >> board & 1;
        }

        int depth(int atMinute) {
            if (night == null || !night.hasDeep()) {
                return SILENT_DEPTH;
            }
            setFacts(atMinute, 0, 0, 0, 0);
            return night.together(DEEP, facts);
        }

        /** LOUD of a BOARD, had it that CREAK and TOY. */
        int loud(int board, int withCreak, int withToy, int kind, int atMinute) {
            int loud = withCreak + TOY_NOISE * withToy;
            if (night != null) {
                setFacts(atMinute, board, withCreak, kind, withToy);
                loud += night.together(CREAKS, facts) - night.together(HUSH, facts);
            }
            return Math.max(0, loud);
        }

        int noise(Walker one, int board, int atMinute) {
            if (!isBoard(board)) {
                return 0;
            }
            return one.noise(loud(board, creak[board], toyOn(board), one.kind(), atMinute), atMinute);
        }

        boolean fitsSeen(Walker one) {
            for (int i = 0; i < seenCount && i < SEEN; i++) {
                int then = minute + seenMinutes[i];
                boolean wakes = noise(one, seenBoard[i], then) > depth(then);
                if (wakes != (seenWoke[i] == 1)) {
                    return false;
                }
            }
            return true;
        }

        private void setFacts(int atMinute, int board, int withCreak, int kind, int withToy) {
            facts[0] = atMinute % ROUND;
            facts[1] = board % WIDTH;
            facts[2] = board / WIDTH;
            facts[3] = withCreak;
            facts[4] = kind;
            facts[5] = withToy;
        }
    }

    /**
     * CLAUSES, each with what it asks as a row of codes: a test (0 and above), or NOT, AND, OR behind
     * what they join.
     */
    static final class Night {
        private int clauses;
        private final int[] word = new int[CLAUSES];
        private final int[] weight = new int[CLAUSES];
        private final int[] codeEnd = new int[CLAUSES];
        private final int[] code = new int[TEXT];
        private int codeLength;

        void clear() {
            clauses = 0;
            codeLength = 0;
        }

        void addCode(int added) {
            if (codeLength >= 0 && codeLength < TEXT) {
                code[codeLength] = added;
                codeLength++;
            }
        }

        /** A CLAUSE comes, which asks what was added since the last one. */
        void addClause(int itsWord, int itsWeight) {
            if (clauses >= 0 && clauses < CLAUSES) {
                word[clauses] = itsWord;
                weight[clauses] = itsWeight;
                codeEnd[clauses] = codeLength;
                clauses++;
            }
        }

        boolean hasDeep() {
            boolean found = false;
            for (int i = 0; i < clauses && i < CLAUSES; i++) {
                found |= word[i] == DEEP;
            }
            return found;
        }

        /** The numbers of all CLAUSES of a word that hold, together. */
        int together(int ofWord, int[] facts) {
            int sum = 0;
            int start = 0;
            for (int i = 0; i < clauses && i < CLAUSES; i++) {
                if (word[i] == ofWord && holds(start, codeEnd[i], facts)) {
                    sum += weight[i];
                }
                start = codeEnd[i];
            }
            return sum;
        }

        private boolean holds(int start, int end, int[] facts) {
            // What is still to be joined, a bit each, the newest lowest: at most some ten.
            long open = 0;
            for (int i = Math.max(0, start); i < end && i < TEXT; i++) {
                long newest = open & 1;
                if (code[i] >= 0) {
                    open = open << 1 | (testHolds(code[i], facts) ? 1 : 0);
                } else if (code[i] == NOT) {
                    open ^= 1;
                } else if (code[i] == AND) {
                    open = open >> 1 & (newest == 1 ? -1 : -2);
                } else {
                    open = open >> 1 | newest;
                }
            }
            return (open & 1) == 1;
        }

        private static boolean testHolds(int test, int[] facts) {
            int letter = test / 300;
            if (letter < 0 || letter >= facts.length) {
                return false;
            }
            int fact = facts[letter];
            int number = test % 100;
            switch (test / 100 % 3) {
                case 0:
                    return fact < number;
                case 1:
                    return fact == number;
                default:
                    return fact > number;
            }
        }
    }

    /** Keeps THE TEXT, and reads it from the left on; where it can't go on, it stands at the FAULT. */
    static final class Reader {
        private final byte[] text = new byte[TEXT];
        int length;
        private int at;
        private Night night;

        /** Whether there was room for it. */
        boolean addSign(byte sign) {
            if (length < 0 || length >= TEXT) {
                return false;
            }
            text[length] = sign;
            length++;
            return true;
        }

        /** Makes a NIGHT of THE TEXT; NEVER, or the FAULT. */
        int readNight(Night into) {
            if (into == null) {
                return 0;
            }
            at = 0;
            night = into;
            night.clear();
            boolean more = true;
            for (int i = 0; i < CLAUSES && more; i++) {
                int word = readWord();
                int weight = word < 0 ? -1 : readNumber();
                if (weight < 0 || !skip(' ') || !readEither(0)) {
                    return at;
                }
                night.addClause(word, weight);
                more = i < CLAUSES - 1 && skip(';');
            }
            return at == length ? NEVER : at;
        }

        /** The byte to be read next; -1 at the end. */
        private int sign() {
            return at >= 0 && at < length && at < TEXT ? text[at] : -1;
        }

        private boolean skip(int expected) {
            boolean there = sign() == expected;
            if (there) {
                at++;
            }
            return there;
        }

        /** The word and the blank behind it; -1: it is none. */
        private int readWord() {
            switch (sign()) {
                case 'd':
                    return skipAll("deep ") ? DEEP : -1;
                case 'c':
                    return skipAll("creak ") ? CREAKS : -1;
                case 'h':
                    return skipAll("hush ") ? HUSH : -1;
                default:
                    return -1;
            }
        }

        private boolean skipAll(String expected) {
            boolean there = true;
            for (int i = 0; i < expected.length() && there; i++) {
                there = skip(expected.charAt(i));
            }
            return there;
        }

        /** One or two digits; -1: there is none. */
        private int readNumber() {
            int number = -1;
            for (int i = 0; i < 2 && sign() >= '0' && sign() <= '9'; i++) {
                number = Math.max(0, number) * 10 + sign() - '0';
                at++;
            }
            return number;
        }

        private boolean readEither(int depth) {
            boolean whole = readBoth(depth);
            for (int i = 0; i < TEXT && whole && sign() == '|'; i++) {
                at++;
                whole = readBoth(depth);
                night.addCode(OR);
            }
            return whole;
        }

        private boolean readBoth(int depth) {
            boolean whole = readFactor(depth);
            for (int i = 0; i < TEXT && whole && sign() == '&'; i++) {
                at++;
                whole = readFactor(depth);
                night.addCode(AND);
            }
            return whole;
        }

        private boolean readFactor(int depth) {
            switch (sign()) {
                case '!':
                    return depth < NESTED && readNot(depth + 1);
                case '(':
                    return depth < NESTED && readGroup(depth + 1);
                default:
                    return readTest();
            }
        }

        private boolean readNot(int depth) {
            at++;
            boolean whole = readFactor(depth);
            night.addCode(NOT);
            return whole;
        }

        private boolean readGroup(int depth) {
            at++;
            return readEither(depth) && skip(')');
        }

        private boolean readTest() {
            int letter = placeOfSign("mxyckt");
            if (letter < 0) {
                return false;
            }
            at++;
            int relation = placeOfSign("<=>");
            if (relation < 0) {
                return false;
            }
            at++;
            int number = readNumber();
            if (number < 0) {
                return false;
            }
            night.addCode(letter * 300 + relation * 100 + number);
            return true;
        }

        private int placeOfSign(String signs) {
            return sign() < 0 ? -1 : signs.indexOf((char) sign());
        }
    }

    /** Ways of one WALKER through the house, by what was learnt of its NOISE and of DEPTH. */
    static final class Ways {
        /** NOISE by MINUTE modulo ROUND, then by BOARD. */
        private final int[] noise = new int[ROUND * BOARDS];
        /** DEPTH by MINUTE modulo ROUND. */
        private final int[] depth = new int[ROUND];
        private int stepMinutes;
        private int door;
        /**
         * The least STIRS with which it can be on a BOARD, by MINUTES gone, then by BOARD; more STIRS
         * than those are never of use.
         */
        private final int[] least = new int[(LONGEST + 1) * BOARDS];
        int goneTo;
        int goneMinute;
        int goneStirs;
        int quietNoise;
        int quietSteps;

        void learn(House house, Walker one) {
            stepMinutes = one.stepMinutes();
            door = house.door;
            for (int m = 0; m < ROUND; m++) {
                depth[m] = house.depth(m);
            }
            for (int board = 0; board < BOARDS; board++) {
                learnBoard(house, one, board, house.creak[board], house.toyOn(board));
            }
        }

        void learnBoard(House house, Walker one, int board, int creak, int toy) {
            if (!isBoard(board)) {
                return;
            }
            for (int m = 0; m < ROUND; m++) {
                noise[m * BOARDS + board] = one.noise(house.loud(board, creak, toy, one.kind(), m), m);
            }
        }

        /** Goes by THE WAY: the first place at which the child wakes, or NEVER; where it comes to is kept. */
        int follow(House house, int board, int minute, int stirs) {
            goneTo = board;
            goneMinute = minute;
            goneStirs = stirs;
            for (int i = 0; i < house.wayCount && i < WAY; i++) {
                int next = house.way[i];
                if (!areBeside(goneTo, next)) {
                    goneMinute++;
                    goneStirs = Math.max(0, goneStirs - 1);
                    continue;
                }
                goneMinute += stepMinutes;
                goneTo = next;
                goneStirs = stirsBehind(noiseAt(next, goneMinute), depth[Math.floorMod(goneMinute, ROUND)], goneStirs);
                if (goneStirs >= WAKES) {
                    goneStirs = 0;
                    return i;
                }
            }
            return NEVER;
        }

        /** OUT from a BOARD at a MINUTE, were DEPTH so much more: MINUTES, or NEVER. */
        int fewest(int board, int minute, int stirs, int more) {
            if (!isBoard(board)) {
                return NEVER;
            }
            for (int i = 0; i < least.length; i++) {
                least[i] = WAKES;
            }
            least[board] = stirs;
            for (int gone = 0; gone <= LONGEST; gone++) {
                if (leastAt(gone, door) < WAKES) {
                    return gone;
                }
                int then = Math.floorMod(minute + gone + stepMinutes, ROUND);
                for (int b = 0; b < BOARDS; b++) {
                    spread(gone, b, then, depth[then] + more);
                }
            }
            return NEVER;
        }

        /** Where one on a BOARD can be next; behind a STEP it is then (modulo ROUND), with that DEPTH. */
        private void spread(int gone, int board, int then, int depthThen) {
            int stirs = leastAt(gone, board);
            if (stirs >= WAKES) {
                return;
            }
            lower(gone + 1, board, Math.max(0, stirs - 1));
            for (int side = 0; side < SIDES; side++) {
                int next = boardBeside(board, side);
                if (isBoard(next)) {
                    lower(gone + stepMinutes, next, stirsBehind(noiseAt(next, then), depthThen, stirs));
                }
            }
        }

        private int leastAt(int gone, int board) {
            int place = gone * BOARDS + board;
            return place >= 0 && place < least.length ? least[place] : WAKES;
        }

        private void lower(int gone, int board, int stirs) {
            int place = gone * BOARDS + board;
            if (place >= 0 && place < least.length && stirs < least[place]) {
                least[place] = stirs;
            }
        }

        private int noiseAt(int board, int minute) {
            int place = Math.floorMod(minute, ROUND) * BOARDS + board;
            return place >= 0 && place < noise.length ? noise[place] : 0;
        }

        /** QUIET from a BOARD at a MINUTE; how much and how many STEPS are kept. */
        void seekQuietest(int board, int minute) {
            quietNoise = LOUDEST;
            quietSteps = 0;
            seekAt(board, minute, 1 << board, 0, 0);
        }

        /** It is on a BOARD: at THE DOOR its way is over. */
        private void seekAt(int board, int minute, int been, int steps, int together) {
            if (board == door) {
                if (together < quietNoise || together == quietNoise && steps < quietSteps) {
                    quietNoise = together;
                    quietSteps = steps;
                }
            } else if (steps < MOST_STEPS) {
                seekBeside(board, minute + stepMinutes, been, steps + 1, together);
            }
        }

        /** It leaves a BOARD by a STEP behind which it is then, with so many STEPS. */
        private void seekBeside(int board, int then, int been, int steps, int together) {
            for (int side = 0; side < SIDES; side++) {
                int next = boardBeside(board, side);
                if (isBoard(next) && (been >> next & 1) == 0) {
                    seekAt(next, then, been | 1 << next, steps, together + noiseAt(next, then));
                }
            }
        }
    }

    /** KIND 0, and what all KINDS have. */
    static class Walker {
        final int number;
        final int v;
        int board;
        private int keptBoard;
        /** The bodies that ran in its latest act, the first ones of them. */
        final int[] ran = new int[KEPT_BODIES];
        int ranCount;

        Walker(int number, int v, int board) {
            this.number = number;
            this.v = v;
            this.board = board;
        }

        int kind() {
            return 0;
        }

        int stepMinutes() {
            return 1;
        }

        int noise(int loud, int minute) {
            return loud;
        }

        void keep() {
            keptBoard = board;
        }

        void goBack() {
            board = keptBoard;
        }

        void begin(int body) {
            if (ranCount >= 0 && ranCount < KEPT_BODIES) {
                ran[ranCount] = body;
            }
            ranCount++;
        }

        int actTreads(int x) {
            begin(10);
            return x + number;
        }

        int actGoes(int x) {
            begin(11);
            return actTreads(x) - v;
        }

        int actTells(int x) {
            begin(12);
            return actGoes(x) * 2;
        }
    }

    static class Heavy extends Walker {
        Heavy(int number, int v, int board) {
            super(number, v, board);
        }

        int kind() {
            return 1;
        }

        int noise(int loud, int minute) {
            return loud + v;
        }

        int actGoes(int x) {
            begin(20);
            return super.actGoes(x) ^ 6;
        }
    }

    static class Soft extends Walker {
        Soft(int number, int v, int board) {
            super(number, v, board);
        }

        int kind() {
            return 2;
        }

        int noise(int loud, int minute) {
            return loud / 2;
        }

        int actTreads(int x) {
            begin(30);
            return super.actTreads(x * 3);
        }
    }

    static class Slow extends Walker {
        Slow(int number, int v, int board) {
            super(number, v, board);
        }

        int kind() {
            return 3;
        }

        int stepMinutes() {
            return 2;
        }

        int noise(int loud, int minute) {
            return Math.max(0, loud - 3);
        }

        int actTells(int x) {
            begin(40);
            return super.actTells(x) + actGoes(1);
        }
    }

    static final class Tired extends Heavy {
        Tired(int number, int v, int board) {
            super(number, v, board);
        }

        int kind() {
            return 4;
        }

        int noise(int loud, int minute) {
            return super.noise(loud, minute) + minute % 3;
        }

        int actTreads(int x) {
            begin(50);
            return -super.actTreads(x);
        }

        int actGoes(int x) {
            begin(51);
            return super.actGoes(x + 1);
        }
    }

    static final class Bare extends Soft {
        Bare(int number, int v, int board) {
            super(number, v, board);
        }

        int kind() {
            return 5;
        }

        int noise(int loud, int minute) {
            return loud <= v ? 0 : super.noise(loud, minute);
        }

        int actTells(int x) {
            begin(60);
            return super.actTells(x - number);
        }
    }

    static final class Told extends Slow {
        static final int PARTS = 4;
        final int[] row = new int[PARTS];
        private final int[] keptRow = new int[PARTS];

        Told(int number, int v, int board) {
            super(number, v, board);
        }

        int kind() {
            return 6;
        }

        int noise(int loud, int minute) {
            return super.noise(loud, minute) + row[Math.floorMod(minute, PARTS)];
        }

        void keep() {
            super.keep();
            System.arraycopy(row, 0, keptRow, 0, PARTS);
        }

        void goBack() {
            super.goBack();
            System.arraycopy(keptRow, 0, row, 0, PARTS);
        }

        int actGoes(int x) {
            begin(70);
            return super.actGoes(x) + super.actTreads(2);
        }

        int actTreads(int x) {
            begin(71);
            return super.actTreads(x) ^ v;
        }
    }
}
