import java.util.Arrays;

/**
 * A stamp from wherever it's going: towns, carts between them, the stamps that each holds, and the letters that go
 * by these stamps, told as a text by a small language. The document's promises say what each call answers.
 */
public final class ReplyStamps {
    public static final int NONE = -1;

    private static final int MOST_BYTES = 1600;
    private static final int BYTES_A_FEED = 20;
    private static final int MOST_TOWNS = 6;
    private static final int PAIRS = MOST_TOWNS * MOST_TOWNS;
    private static final int MOST_LETTERS = 60;
    private static final int MOST_KEPT = 50;
    private static final int MOST_ACTS = 20;
    private static final int MOST_ROWS = 16;
    private static final int MOST_DAY = 999;
    private static final int MOST_AHEAD = 60;
    private static final int MOST_AT_ONCE = 100;
    private static final int MOST_COUNTED = 99;
    private static final int FAR_WITHOUT_WAY = 99;
    private static final int MOST_CHOSEN = 3;
    private static final int KINDS_REFUSED = 6;
    private static final int SWAP_ANSWERS = 5;
    private static final int DAY_BYTES = 2;
    private static final int MOST_IMAGE = 512;

    private static final int REFUSED_TAPE = 0;
    private static final int REFUSED_UNION = 1;
    private static final int REFUSED_DAYS = 2;
    private static final int REFUSED_STAMPS = 3;
    private static final int REFUSED_UNDO = 4;
    private static final int REFUSED_OTHERS = 5;

    private final byte[] tape = new byte[MOST_BYTES];
    private int tapeLength = 0;
    private Union union = new Union();
    private int faultKind = 0;
    private int faultPlace = NONE;
    private final State state = new State();
    private final State scratch = new State();
    private final Office office = new Office();
    private final Draws draws = new Draws();
    private final State[] past = new State[MOST_ACTS];
    private int acts = 0;
    private final int[] bagTown = new int[MOST_ROWS];
    private final int[] bagStamps = new int[MOST_ROWS];
    private int bagRows = 0;
    private final int[] imageRow = new int[MOST_IMAGE];
    private int imageLength = 0;
    private final int[] refused = new int[KINDS_REFUSED];

    public ReplyStamps() {
    }

    // ---- the tape and the union

    public int feed(int a, int b, int c, int d, int e) {
        if (tapeLength + BYTES_A_FEED > MOST_BYTES) {
            return refuse(REFUSED_TAPE);
        }
        putNumber(a);
        putNumber(b);
        putNumber(c);
        putNumber(d);
        putNumber(e);
        return tapeLength;
    }

    private void putNumber(int number) {
        for (int shift = 24; shift >= 0 && tapeLength < MOST_BYTES; shift -= 8) {
            tape[tapeLength] = (byte) (number >> shift);
            tapeLength++;
        }
    }

    public boolean end(int n) {
        if (n < 0 || n > tapeLength) {
            refuse(REFUSED_TAPE);
            return false;
        }
        tapeLength = n;
        return true;
    }

    public int union() {
        Reader reader = new Reader(tape, tapeLength);
        tapeLength = 0;
        reader.readUnion();
        faultKind = reader.fault;
        faultPlace = reader.place;
        if (faultKind != 0) {
            return refuse(REFUSED_UNION);
        }
        union = reader.into;
        union.findWays();
        state.begin(union.start);
        acts = 0;
        bagRows = 0;
        return union.statements;
    }

    public int fault(int what) {
        if (what == 0) {
            return faultKind;
        }
        return what == 1 ? faultPlace : NONE;
    }

    // ---- what is so now

    public int has(int what) {
        switch (what) {
            case 0: return union.towns;
            case 1: return union.carts;
            case 2: return state.day;
            case 3: return sumOf(state.held);
            case 4: return state.letters;
            case 5: return sumOf(state.sent);
            case 6: return sumOf(state.got);
            case 7: return state.keptRows;
            case 8: return bagRows;
            case 9: return acts;
            case 10: return draws.x;
            default: return NONE;
        }
    }

    private static int sumOf(int[] row) {
        int sum = 0;
        for (int i = 0; i < row.length; i++) {
            sum += row[i];
        }
        return sum;
    }

    public int letter(int town, int k) {
        if (!union.isTown(town) || k < 0 || k >= Tokens.MOST_SIGNS) {
            return NONE;
        }
        return Tokens.letterOf(union.names[town], k);
    }

    public int pair(int town, int other, int what) {
        if (!union.isPair(town, other)) {
            return NONE;
        }
        int pair = town * MOST_TOWNS + other;
        if (what == 3) {
            return union.way[pair] > 0 ? union.way[pair] : NONE;
        }
        return state.countOf(pair, what);
    }

    public int mail(int k, int what) {
        if (k < 0 || k >= state.letters || k >= MOST_LETTERS) {
            return NONE;
        }
        switch (what) {
            case 0: return state.pairs[k] / MOST_TOWNS;
            case 1: return state.pairs[k] % MOST_TOWNS;
            case 2: return state.left[k];
            default: return NONE;
        }
    }

    public int writes(int town) {
        return union.isTown(town) ? office.targetOf(union, state, town) : NONE;
    }

    // ---- ahead

    public int later(int town, int other, int n, int what) {
        if (!union.isPair(town, other) || n < 0 || n > daysAhead()) {
            return NONE;
        }
        scratch.copyFrom(state);
        for (int i = 0; i < n; i++) {
            office.passDay(union, scratch, null);
        }
        return scratch.countOf(town * MOST_TOWNS + other, what);
    }

    public int comes(int from, int to) {
        if (!union.isPair(from, to)) {
            return NONE;
        }
        int most = daysAhead();
        long sought = 1L << (from * MOST_TOWNS + to);
        scratch.copyFrom(state);
        for (int i = 1; i <= most; i++) {
            office.passDay(union, scratch, null);
            if ((scratch.came & sought) != 0) {
                return i;
            }
        }
        return NONE;
    }

    public int silent() {
        int most = daysAhead();
        scratch.copyFrom(state);
        for (int i = 0; i <= most; i++) {
            if (office.isSilent(union, scratch)) {
                return i;
            }
            office.passDay(union, scratch, null);
        }
        return NONE;
    }

    private int daysAhead() {
        return Math.min(MOST_AHEAD, MOST_DAY - state.day);
    }

    // ---- word

    public int word(int town) {
        return union.isTown(town) ? Roads.reach(Roads.open(union, state), town) : NONE;
    }

    public int wide(int k) {
        Fewest fewest = new Fewest();
        fewest.seekWide(union, Roads.open(union, state));
        return fewest.tell(k);
    }

    public int cut(int from, int to, int k) {
        if (!union.isPair(from, to)) {
            return NONE;
        }
        Fewest fewest = new Fewest();
        fewest.seekCut(from, to, Roads.open(union, state));
        return fewest.tell(k);
    }

    public int ring(int town, int k) {
        if (!union.isTown(town)) {
            return NONE;
        }
        int[] row = new int[MOST_TOWNS];
        int length = Roads.shortestRing(Roads.open(union, state), town, row);
        if (k == NONE) {
            return length > 0 ? length : NONE;
        }
        return k >= 0 && k < length && k < row.length ? row[k] : NONE;
    }

    public int swap(int what) {
        if (what < 0 || what >= SWAP_ANSWERS) {
            return NONE;
        }
        Barter barter = new Barter();
        barter.weigh(union, state, office);
        barter.seekBest(union.towns);
        return barter.best[SWAP_ANSWERS - 1] > 0 ? barter.best[what] : NONE;
    }

    // ---- whose bag

    public int bag() {
        int length = tapeLength;
        tapeLength = 0;
        if (!isBag(length)) {
            return refuse(REFUSED_OTHERS);
        }
        bagRows = length / 2;
        for (int i = 0; i < bagRows && i < MOST_ROWS; i++) {
            bagTown[i] = tape[2 * i] & 255;
            bagStamps[i] = tape[2 * i + 1] & 255;
        }
        return bagRows;
    }

    private boolean isBag(int length) {
        if (length < 2 || length > 2 * MOST_ROWS || length % 2 != 0) {
            return false;
        }
        for (int i = 0; i < length; i += 2) {
            if (!union.isTown(tape[i] & 255)) {
                return false;
            }
        }
        return true;
    }

    public int whose(int what) {
        int fitting = 0;
        for (int town = 0; town < union.towns; town++) {
            if (fitsBag(town)) {
                fitting |= 1 << town;
            }
        }
        if (what == 0) {
            return fitting;
        }
        // when no town fits, there is none to tell from another
        if (what != 1 && what != 2 || fitting == 0) {
            return NONE;
        }
        int telling = NONE;
        int fewest = NONE;
        for (int by = 0; by < union.towns; by++) {
            int most = mostLeft(fitting, by);
            if (telling == NONE || most < fewest) {
                telling = by;
                fewest = most;
            }
        }
        return what == 1 ? telling : fewest;
    }

    private boolean fitsBag(int town) {
        for (int i = 0; i < bagRows && i < MOST_ROWS; i++) {
            if (state.heldBy(town, bagTown[i]) != bagStamps[i]) {
                return false;
            }
        }
        return true;
    }

    private int mostLeft(int fitting, int by) {
        int most = 0;
        for (int town = 0; town < MOST_TOWNS; town++) {
            int alike = 0;
            for (int other = 0; other < MOST_TOWNS; other++) {
                if ((fitting >> other & 1) != 0 && state.heldBy(other, by) == state.heldBy(town, by)) {
                    alike++;
                }
            }
            if ((fitting >> town & 1) != 0) {
                most = Math.max(most, alike);
            }
        }
        return most;
    }

    // ---- acts

    public int days(int n) {
        if (!canPass(n)) {
            return refuse(REFUSED_DAYS);
        }
        remember();
        int came = 0;
        for (int i = 0; i < n; i++) {
            office.passDay(union, state, null);
            came += state.cameCount;
        }
        return came;
    }

    public int chance(int n) {
        if (!canPass(n)) {
            return refuse(REFUSED_DAYS);
        }
        remember();
        int lost = 0;
        for (int i = 0; i < n; i++) {
            office.passDay(union, state, draws);
            lost += state.lostCount;
        }
        return lost;
    }

    private boolean canPass(int n) {
        return n >= 1 && n <= MOST_AT_ONCE && n <= MOST_DAY - state.day;
    }

    public boolean give(int town, int other, int to) {
        if (!union.isPair(town, other) || !union.isPair(town, to) || !canGive(town, other, to)) {
            refuse(REFUSED_STAMPS);
            return false;
        }
        remember();
        state.held[town * MOST_TOWNS + other]--;
        if (to != other) {
            state.held[to * MOST_TOWNS + other]++;
        }
        return true;
    }

    private boolean canGive(int town, int other, int to) {
        return state.heldBy(town, other) > 0 && (to == other || state.heldBy(to, other) < MOST_COUNTED);
    }

    public boolean find(int town, int other) {
        if (!union.isPair(town, other) || state.heldBy(town, other) >= MOST_COUNTED) {
            refuse(REFUSED_STAMPS);
            return false;
        }
        remember();
        state.held[town * MOST_TOWNS + other]++;
        return true;
    }

    public int burn(int town, int other) {
        if (!union.isPair(town, other) || state.heldBy(town, other) == 0) {
            return refuse(REFUSED_STAMPS);
        }
        remember();
        int burnt = state.heldBy(town, other);
        state.held[town * MOST_TOWNS + other] = 0;
        return burnt;
    }

    /** Rows of the past are made once and then used again, the oldest one for the newest act. */
    private void remember() {
        int place = Math.min(acts, MOST_ACTS - 1);
        State row = past[place];
        if (acts == MOST_ACTS) {
            row = past[0];
            for (int i = 1; i < MOST_ACTS; i++) {
                past[i - 1] = past[i];
            }
        }
        if (row == null) {
            row = new State();
        }
        row.copyFrom(state);
        past[place] = row;
        acts = place + 1;
    }

    public boolean undo() {
        State row = acts > 0 && acts <= MOST_ACTS ? past[acts - 1] : null;
        if (row == null) {
            refuse(REFUSED_UNDO);
            return false;
        }
        state.copyFrom(row);
        acts--;
        return true;
    }

    public boolean seed(int seed) {
        if (seed < 0) {
            refuse(REFUSED_OTHERS);
            return false;
        }
        draws.x = seed;
        return true;
    }

    public int kept(int k, int what) {
        return k >= 0 && k < state.keptRows ? state.keptAt(k, what) : NONE;
    }

    // ---- images, refusals

    public int image() {
        imageLength = 0;
        putOctet(state.day >> 8);
        putOctet(state.day & 255);
        for (int pair = 0; pair < PAIRS; pair++) {
            if (union.isPair(pair / MOST_TOWNS, pair % MOST_TOWNS)) {
                putOctet(state.held[pair]);
                putOctet(state.sent[pair]);
                putOctet(state.got[pair]);
            }
        }
        putOctet(state.letters);
        for (int i = 0; i < state.letters && i < MOST_LETTERS; i++) {
            putOctet(state.pairs[i] / MOST_TOWNS);
            putOctet(state.pairs[i] % MOST_TOWNS);
            putOctet(state.left[i]);
        }
        int check = Images.CHECK_START;
        for (int i = 0; i < imageLength; i++) {
            check = Images.checkOn(check, imageRow[i]);
        }
        putOctet(check);
        return imageLength;
    }

    private void putOctet(int octet) {
        if (imageLength < MOST_IMAGE) {
            imageRow[imageLength] = octet;
            imageLength++;
        }
    }

    public int octet(int k) {
        return k >= 0 && k < imageLength ? imageRow[k] : NONE;
    }

    public boolean on() {
        int length = tapeLength;
        tapeLength = 0;
        if (!Images.read(tape, length, union, scratch)) {
            refuse(REFUSED_OTHERS);
            return false;
        }
        state.copyFrom(scratch);
        acts = 0;
        return true;
    }

    public int status(int what) {
        return what >= 0 && what < KINDS_REFUSED ? refused[what] : NONE;
    }

    private int refuse(int kind) {
        if (kind >= 0 && kind < KINDS_REFUSED) {
            refused[kind]++;
        }
        return NONE;
    }

    /** What a text tells: towns, ways, the stamps at first, and the three rules as code for the office. */
    private static final class Union {
        private int towns = 0;
        private int carts = 0;
        private int statements = 0;
        private int enclosed = 1;
        private int lostBelow = 0;
        private final int[] names = new int[MOST_TOWNS];
        private final int[] start = new int[PAIRS];
        /** Days from a town to another one, 0 without a way; while the text is read, those of the carts alone. */
        private final int[] way = new int[PAIRS];
        private int[] writesCode = null;
        private int[] likesCode = null;
        private int[] worthCode = null;

        private boolean isTown(int town) {
            return town >= 0 && town < towns && town < MOST_TOWNS;
        }

        private boolean isPair(int town, int other) {
            return isTown(town) && isTown(other) && town != other;
        }

        private int townNamed(int name) {
            for (int town = 0; town < towns && town < MOST_TOWNS; town++) {
                if (names[town] == name) {
                    return town;
                }
            }
            return NONE;
        }

        private void findWays() {
            for (int by = 0; by < MOST_TOWNS; by++) {
                for (int pair = 0; pair < PAIRS; pair++) {
                    int from = pair / MOST_TOWNS;
                    int to = pair % MOST_TOWNS;
                    int there = way[from * MOST_TOWNS + by];
                    int on = way[by * MOST_TOWNS + to];
                    boolean leads = from != to && there > 0 && on > 0;
                    if (leads && (way[pair] == 0 || there + on < way[pair])) {
                        way[pair] = there + on;
                    }
                }
            }
        }
    }

    /** What is so on a day: stamps, counts, letters under way, letters kept. */
    private static final class State {
        private int day = 0;
        private final int[] held = new int[PAIRS];
        private final int[] sent = new int[PAIRS];
        private final int[] got = new int[PAIRS];
        private int letters = 0;
        private final int[] pairs = new int[MOST_LETTERS];
        private final int[] left = new int[MOST_LETTERS];
        private int keptRows = 0;
        /** A kept letter in one number, so that a row of the past is short: day, pair, whether lost. */
        private final int[] keptRow = new int[MOST_KEPT];
        /** Of the latest day: pairs of which a letter came (bits), how many came, how many were lost. */
        private long came = 0;
        private int cameCount = 0;
        private int lostCount = 0;

        private void begin(int[] start) {
            day = 0;
            letters = 0;
            keptRows = 0;
            for (int pair = 0; pair < PAIRS; pair++) {
                held[pair] = pair < start.length ? start[pair] : 0;
                sent[pair] = 0;
                got[pair] = 0;
            }
        }

        private void copyFrom(State other) {
            day = other.day;
            System.arraycopy(other.held, 0, held, 0, PAIRS);
            System.arraycopy(other.sent, 0, sent, 0, PAIRS);
            System.arraycopy(other.got, 0, got, 0, PAIRS);
            letters = other.letters;
            System.arraycopy(other.pairs, 0, pairs, 0, MOST_LETTERS);
            System.arraycopy(other.left, 0, left, 0, MOST_LETTERS);
            keptRows = other.keptRows;
            System.arraycopy(other.keptRow, 0, keptRow, 0, MOST_KEPT);
        }

        private int heldBy(int town, int other) {
            int pair = town * MOST_TOWNS + other;
            return pair >= 0 && pair < PAIRS ? held[pair] : 0;
        }

        private int countOf(int pair, int what) {
            if (pair < 0 || pair >= PAIRS) {
                return NONE;
            }
            switch (what) {
                case 0: return held[pair];
                case 1: return sent[pair];
                case 2: return got[pair];
                default: return NONE;
            }
        }

        private void post(int pair, int days) {
            if (letters < MOST_LETTERS && pair >= 0 && pair < PAIRS) {
                held[pair]--;
                sent[pair] = Math.min(MOST_COUNTED, sent[pair] + 1);
                pairs[letters] = pair;
                left[letters] = days;
                letters++;
            }
        }

        private void deliver(int pair, int enclosed, boolean lost) {
            keep(pair, lost);
            if (lost) {
                lostCount++;
                return;
            }
            cameCount++;
            came |= 1L << pair;
            int back = pair % MOST_TOWNS * MOST_TOWNS + pair / MOST_TOWNS;
            if (back >= 0 && back < PAIRS) {
                held[back] = Math.min(MOST_COUNTED, held[back] + enclosed);
                got[back] = Math.min(MOST_COUNTED, got[back] + 1);
            }
        }

        private void keep(int pair, boolean lost) {
            if (keptRows == MOST_KEPT) {
                System.arraycopy(keptRow, 1, keptRow, 0, MOST_KEPT - 1);
                keptRows--;
            }
            keptRow[keptRows] = (day * PAIRS + pair) * 2 + (lost ? 1 : 0);
            keptRows++;
        }

        private int keptAt(int k, int what) {
            if (k < 0 || k >= MOST_KEPT) {
                return NONE;
            }
            int pair = keptRow[k] / 2 % PAIRS;
            switch (what) {
                case 0: return keptRow[k] / 2 / PAIRS;
                case 1: return pair / MOST_TOWNS;
                case 2: return pair % MOST_TOWNS;
                case 3: return keptRow[k] % 2;
                default: return NONE;
            }
        }
    }

    /** The seed, and what is drawn by it. */
    private static final class Draws {
        private static final int TIMES = 1103515245;
        private static final int PLUS = 12345;
        /** And-ing with this is the rest by 2 to the 31, whatever overflowed. */
        private static final int LOW_31_BITS = 0x7fffffff;

        private int x = 1;

        private int drawOf(int m) {
            x = TIMES * x + PLUS & LOW_31_BITS;
            return m > 0 ? x / 64 % m : 0;
        }
    }

    /** Lets days go by, and reckons the rules of a union for a town and another one. */
    private static final class Office {
        private static final int STACK = 128;

        private static final int READ_HELD = 0;
        private static final int READ_FAR = 1;
        private static final int READ_DAY = 2;
        private static final int READ_SENT = 3;
        private static final int READ_GOT = 4;
        private static final int FIRST_JOIN = 5;
        private static final int ADD = 5;
        private static final int LESS = 6;
        private static final int TIMES = 7;
        private static final int OVER = 8;
        private static final int REST = 9;
        private static final int SMALLER = 10;
        private static final int GREATER = 11;
        private static final int EITHER = 12;
        private static final int BOTH = 13;
        private static final int BELOW = 14;
        private static final int ABOVE = 15;
        private static final int ALIKE = 16;
        private static final int DENY = 17;
        private static final int CHOOSE = 18;
        /** A code of this or more is a number told in the text, less this. */
        private static final int TOLD = 100;

        private static final int BOUND = 1000000;

        private final int[] stack = new int[STACK];

        private void passDay(Union union, State state, Draws draws) {
            bring(union, state, draws);
            for (int town = 0; town < union.towns; town++) {
                int to = targetOf(union, state, town);
                if (to != NONE) {
                    int pair = town * MOST_TOWNS + to;
                    state.post(pair, union.way[pair]);
                }
            }
            state.day = Math.min(MOST_DAY, state.day + 1);
        }

        /** Without draws no letter is lost. */
        private void bring(Union union, State state, Draws draws) {
            state.came = 0;
            state.cameCount = 0;
            state.lostCount = 0;
            int staying = 0;
            for (int i = 0; i < state.letters && i < MOST_LETTERS; i++) {
                int pair = state.pairs[i];
                int left = state.left[i] - 1;
                if (left > 0) {
                    state.pairs[staying] = pair;
                    state.left[staying] = left;
                    staying++;
                } else {
                    boolean lost = draws != null && draws.drawOf(100) < union.lostBelow;
                    state.deliver(pair, union.enclosed, lost);
                }
            }
            state.letters = staying;
        }

        private boolean isSilent(Union union, State state) {
            if (state.letters > 0) {
                return false;
            }
            for (int town = 0; town < union.towns; town++) {
                if (targetOf(union, state, town) != NONE) {
                    return false;
                }
            }
            return true;
        }

        /** To which town a town would write, or NONE. */
        private int targetOf(Union union, State state, int town) {
            int best = NONE;
            int most = 0;
            if (state.letters >= MOST_LETTERS) {
                return NONE;
            }
            for (int other = 0; other < union.towns; other++) {
                int pair = town * MOST_TOWNS + other;
                if (canWrite(union, state, pair)) {
                    int liked = reckon(union, union.likesCode, 0, state, pair, state.held[pair]);
                    if (best == NONE || liked > most) {
                        best = other;
                        most = liked;
                    }
                }
            }
            return best;
        }

        private boolean canWrite(Union union, State state, int pair) {
            return pair >= 0 && pair < PAIRS && union.way[pair] > 0 && state.held[pair] > 0
                && reckon(union, union.writesCode, 1, state, pair, state.held[pair]) != 0;
        }

        /** The number of held stamps is told apart, so that a swap can be weighed before it is made. */
        private int reckon(Union union, int[] code, int without, State state, int pair, int held) {
            if (code == null) {
                return without;
            }
            int top = 0;
            for (int i = 0; i < code.length; i++) {
                int act = code[i];
                if (act < FIRST_JOIN || act >= TOLD) {
                    if (top < STACK) {
                        stack[top] = act >= TOLD ? act - TOLD : factOf(act, union, state, pair, held);
                        top++;
                    }
                } else if (act == DENY) {
                    if (top >= 1) {
                        stack[top - 1] = 1 - stack[top - 1];
                    }
                } else if (act == CHOOSE) {
                    if (top >= 3) {
                        top -= 2;
                        stack[top - 1] = stack[top - 1] != 0 ? stack[top] : stack[top + 1];
                    }
                } else if (top >= 2) {
                    top--;
                    stack[top - 1] = joined(act, stack[top - 1], stack[top]);
                }
            }
            return top > 0 ? stack[top - 1] : without;
        }

        private static int factOf(int act, Union union, State state, int pair, int held) {
            if (pair < 0 || pair >= PAIRS) {
                return 0;
            }
            switch (act) {
                case READ_HELD: return held;
                case READ_FAR: return union.way[pair] > 0 ? union.way[pair] : FAR_WITHOUT_WAY;
                case READ_DAY: return state.day;
                case READ_SENT: return state.sent[pair];
                case READ_GOT: return state.got[pair];
                default: return 0;
            }
        }

        private static int joined(int act, int a, int b) {
            switch (act) {
                case ADD: return bounded((long) a + b);
                case LESS: return bounded((long) a - b);
                case TIMES: return bounded((long) a * b);
                case OVER: return b == 0 ? 0 : bounded(Math.floorDiv(a, b));
                case REST: return b == 0 ? 0 : Math.floorMod(a, b);
                case SMALLER: return Math.min(a, b);
                case GREATER: return Math.max(a, b);
                case EITHER: return a | b;
                case BOTH: return a & b;
                case BELOW: return a < b ? 1 : 0;
                case ABOVE: return a > b ? 1 : 0;
                case ALIKE: return a == b ? 1 : 0;
                default: return 0;
            }
        }

        private static int bounded(long number) {
            return (int) Math.max(-BOUND, Math.min(BOUND, number));
        }
    }

    /** Pairs by which word goes, as bits, and what can be told from these alone. */
    private static final class Roads {
        private static final int ALL_TOWNS = (1 << MOST_TOWNS) - 1;
        private static final int TOO_FAR = 99;

        private static long open(Union union, State state) {
            long open = 0;
            for (int pair = 0; pair < PAIRS; pair++) {
                if (union.way[pair] > 0 && state.held[pair] > 0) {
                    open |= 1L << pair;
                }
            }
            return open;
        }

        private static int from(long open, int town) {
            return (int) (open >>> (town * MOST_TOWNS)) & ALL_TOWNS;
        }

        private static int reach(long open, int town) {
            int reached = 1 << town;
            for (int round = 1; round < MOST_TOWNS; round++) {
                int before = reached;
                for (int by = 0; by < MOST_TOWNS; by++) {
                    if ((reached >> by & 1) != 0) {
                        reached |= from(open, by);
                    }
                }
                if (reached == before) {
                    break;
                }
            }
            return reached;
        }

        private static boolean joinAll(long open, int towns) {
            int all = (1 << towns) - 1;
            for (int town = 0; town < towns; town++) {
                if (reach(open, town) != all) {
                    return false;
                }
            }
            return true;
        }

        /** Writes the ring into the row and answers its length, 0 without one. */
        private static int shortestRing(long open, int town, int[] row) {
            int[] toTown = stepsTo(open, town);
            int length = 1 + nearest(open, town, toTown);
            if (length > MOST_TOWNS || length > row.length) {
                return 0;
            }
            int at = town;
            for (int i = 0; i < length && at != NONE; i++) {
                row[i] = at;
                at = firstWith(open, at, toTown, length - 1 - i);
            }
            return length;
        }

        private static int[] stepsTo(long open, int town) {
            int[] steps = new int[MOST_TOWNS];
            for (int by = 0; by < MOST_TOWNS; by++) {
                steps[by] = by == town ? 0 : TOO_FAR;
            }
            for (int round = 1; round < MOST_TOWNS; round++) {
                for (int by = 0; by < MOST_TOWNS; by++) {
                    steps[by] = Math.min(steps[by], 1 + nearest(open, by, steps));
                }
            }
            return steps;
        }

        private static int nearest(long open, int town, int[] steps) {
            int least = TOO_FAR;
            for (int to = 0; to < steps.length; to++) {
                if ((from(open, town) >> to & 1) != 0) {
                    least = Math.min(least, steps[to]);
                }
            }
            return least;
        }

        private static int firstWith(long open, int town, int[] steps, int wanted) {
            for (int to = 0; to < steps.length; to++) {
                if ((from(open, town) >> to & 1) != 0 && steps[to] == wanted) {
                    return to;
                }
            }
            return NONE;
        }
    }

    /** The fewest pairs to add, so that all word goes, or to take, so that none goes from a town to another one. */
    private static final class Fewest {
        private final int[] offered = new int[PAIRS];
        private int offers = 0;
        private final int[] chosen = new int[MOST_CHOSEN];
        private int size = NONE;
        private boolean adding = false;
        private int towns = 0;
        private int start = 0;
        private int goal = 0;

        private void seekWide(Union union, long open) {
            adding = true;
            towns = union.towns;
            for (int pair = 0; pair < PAIRS; pair++) {
                if (union.way[pair] > 0 && (open >>> pair & 1) == 0) {
                    offer(pair);
                }
            }
            seek(open);
        }

        private void seekCut(int from, int to, long open) {
            start = from;
            goal = to;
            for (int pair = 0; pair < PAIRS; pair++) {
                if ((open >>> pair & 1) != 0) {
                    offer(pair);
                }
            }
            seek(open);
        }

        private void offer(int pair) {
            if (offers < PAIRS) {
                offered[offers] = pair;
                offers++;
            }
        }

        private void seek(long open) {
            for (int tried = 0; tried <= MOST_CHOSEN; tried++) {
                if (choose(open, tried, 0, 0)) {
                    size = tried;
                    return;
                }
            }
        }

        private boolean choose(long open, int wanted, int depth, int first) {
            if (depth >= wanted || depth >= MOST_CHOSEN) {
                return isMet(open);
            }
            for (int i = first; i < offers; i++) {
                chosen[depth] = offered[i];
                if (choose(open ^ 1L << offered[i], wanted, depth + 1, i + 1)) {
                    return true;
                }
            }
            return false;
        }

        private boolean isMet(long open) {
            return adding ? Roads.joinAll(open, towns) : (Roads.reach(open, start) >> goal & 1) == 0;
        }

        /** A pair's own number is six times the town and the other one. */
        private int tell(int k) {
            if (k == NONE) {
                return size;
            }
            return k >= 0 && k < size && k < MOST_CHOSEN ? chosen[k] : NONE;
        }
    }

    /** The best swap: what a stamp less and a stamp more of each pair changes, and the four that together make most. */
    private static final class Barter {
        private final long[] less = new long[PAIRS];
        private final long[] more = new long[PAIRS];
        private final boolean[] canLess = new boolean[PAIRS];
        private final boolean[] canMore = new boolean[PAIRS];
        private final int[] best = new int[SWAP_ANSWERS];
        private long most = 0;

        private void weigh(Union union, State state, Office office) {
            for (int pair = 0; pair < PAIRS; pair++) {
                if (union.isPair(pair / MOST_TOWNS, pair % MOST_TOWNS)) {
                    int held = state.held[pair];
                    long now = worthOf(union, state, office, pair, held);
                    canLess[pair] = held > 0;
                    canMore[pair] = held < MOST_COUNTED;
                    less[pair] = worthOf(union, state, office, pair, held - 1) - now;
                    more[pair] = worthOf(union, state, office, pair, held + 1) - now;
                }
            }
        }

        private static long worthOf(Union union, State state, Office office, int pair, int held) {
            return (long) office.reckon(union, union.worthCode, 1, state, pair, held) * held;
        }

        private void seekBest(int towns) {
            for (int first = 0; first < towns; first++) {
                for (int second = first + 1; second < towns; second++) {
                    seekBetween(first, second, towns);
                }
            }
        }

        private void seekBetween(int first, int second, int towns) {
            for (int given = 0; given < towns; given++) {
                for (int taken = 0; taken < towns; taken++) {
                    boolean third = given != first && given != second && taken != first && taken != second;
                    if (third && given != taken) {
                        compare(first, second, given, taken);
                    }
                }
            }
        }

        private void compare(int first, int second, int given, int taken) {
            int firstGives = first * MOST_TOWNS + given;
            int secondGets = second * MOST_TOWNS + given;
            int secondGives = second * MOST_TOWNS + taken;
            int firstGets = first * MOST_TOWNS + taken;
            if (!canLess[firstGives] || !canMore[secondGets] || !canLess[secondGives] || !canMore[firstGets]) {
                return;
            }
            long gain = less[firstGives] + more[secondGets] + less[secondGives] + more[firstGets];
            if (gain > most) {
                most = gain;
                best[0] = first;
                best[1] = second;
                best[2] = given;
                best[3] = taken;
                best[4] = (int) gain;
            }
        }
    }

    /** Images on the tape. */
    private static final class Images {
        private static final int CHECK_START = 191;
        private static final int CHECK_TIMES = 5;
        private static final int CHECK_MOD = 251;
        private static final int BYTES_A_PAIR = 3;
        private static final int BYTES_A_LETTER = 3;

        private static int checkOn(int check, int octet) {
            return (CHECK_TIMES * check + octet) % CHECK_MOD;
        }

        /** Reads the image into the state; false, if it is none of this union (the state is then of no use). */
        private static boolean read(byte[] tape, int length, Union union, State into) {
            int counts = union.towns * (union.towns - 1) * BYTES_A_PAIR;
            int lettersAt = DAY_BYTES + counts;
            if (length > tape.length || length < lettersAt + 2) {
                return false;
            }
            into.begin(union.start);
            into.day = (tape[0] & 255) << 8 | tape[1] & 255;
            into.letters = tape[lettersAt] & 255;
            boolean sizeFits = length == lettersAt + 2 + into.letters * BYTES_A_LETTER;
            return into.day <= MOST_DAY && into.letters <= MOST_LETTERS && sizeFits && checkFits(tape, length)
                && readCounts(tape, union, into) && readLetters(tape, lettersAt + 1, union, into);
        }

        private static boolean checkFits(byte[] tape, int length) {
            int check = CHECK_START;
            for (int i = 0; i < length - 1 && i < tape.length; i++) {
                check = checkOn(check, tape[i] & 255);
            }
            return length > 0 && length <= tape.length && check == (tape[length - 1] & 255);
        }

        private static boolean readCounts(byte[] tape, Union union, State into) {
            int at = DAY_BYTES;
            for (int pair = 0; pair < PAIRS; pair++) {
                if (union.isPair(pair / MOST_TOWNS, pair % MOST_TOWNS) && at + 2 < tape.length) {
                    into.held[pair] = tape[at] & 255;
                    into.sent[pair] = tape[at + 1] & 255;
                    into.got[pair] = tape[at + 2] & 255;
                    at += BYTES_A_PAIR;
                    int greatest = Math.max(into.held[pair], Math.max(into.sent[pair], into.got[pair]));
                    if (greatest > MOST_COUNTED) {
                        return false;
                    }
                }
            }
            return true;
        }

        private static boolean readLetters(byte[] tape, int start, Union union, State into) {
            int at = start;
            for (int i = 0; i < into.letters && i < MOST_LETTERS && at + 2 < tape.length; i++) {
                int from = tape[at] & 255;
                int to = tape[at + 1] & 255;
                int left = tape[at + 2] & 255;
                if (!union.isPair(from, to)) {
                    return false;
                }
                int pair = from * MOST_TOWNS + to;
                if (left < 1 || left > union.way[pair]) {
                    return false;
                }
                into.pairs[i] = pair;
                into.left[i] = left;
                at += BYTES_A_LETTER;
            }
            return true;
        }
    }

    /** A text cut into words, numbers and signs. */
    private static final class Tokens {
        private static final int END = 0;
        private static final int SIGN = 1;
        private static final int NUMBER = 2;
        private static final int NAME = 3;
        private static final int OWN = 4;
        /** A word or number too long, or without the blank ahead of it; its value is the place of the fault. */
        private static final int BAD = 5;

        private static final int MOST_SIGNS = 6;
        private static final int MOST_DIGITS = 4;
        private static final int LETTER_BITS = 5;
        private static final int LETTER_MASK = 31;

        private static final String OWN_WORDS =
            "town cart to days holds of writes likes worth encl lost held far day sent got if or and not all min max ";
        private static final int TOWN = 0;
        private static final int CART = 1;
        private static final int TO = 2;
        private static final int DAYS = 3;
        private static final int HOLDS = 4;
        private static final int OF = 5;
        private static final int WRITES = 6;
        private static final int LIKES = 7;
        private static final int WORTH = 8;
        private static final int ENCL = 9;
        private static final int LOST = 10;
        private static final int HELD = 11;
        private static final int FAR = 12;
        private static final int DAY = 13;
        private static final int SENT = 14;
        private static final int GOT = 15;
        private static final int IF = 16;
        private static final int OR = 17;
        private static final int AND = 18;
        private static final int NOT = 19;
        private static final int ALL = 20;
        private static final int MIN = 21;
        private static final int MAX = 22;

        private final int[] kind;
        private final int[] value;
        private final int[] from;
        private int count = 0;

        private Tokens(int length) {
            int most = Math.max(0, length) + 1;
            kind = new int[most];
            value = new int[most];
            from = new int[most];
        }

        /** Letter k of a word in one number, 0 behind it. */
        private static int letterOf(int word, int k) {
            return word >> k * LETTER_BITS & LETTER_MASK;
        }

        private void split(byte[] text, int length) {
            int before = END;
            for (int i = 0; i < length && i < text.length; i++) {
                int octet = text[i] & 255;
                int now = kindOf(octet);
                boolean inRun = now == NAME || now == NUMBER;
                if (inRun && now == before) {
                    lengthen(now, octet, i);
                } else if (inRun) {
                    add(now, 0, i);
                    lengthen(now, octet, i);
                    // a word and a number side by side need a blank, too
                    if (before == NAME || before == NUMBER) {
                        spoil(i);
                    }
                } else if (now == SIGN) {
                    add(SIGN, octet, i);
                }
                before = now;
            }
            add(END, 0, length);
            markOwnWords();
        }

        private static int kindOf(int octet) {
            if (octet >= 'a' && octet <= 'z') {
                return NAME;
            }
            if (octet >= '0' && octet <= '9') {
                return NUMBER;
            }
            return octet == 10 || octet == 32 ? END : SIGN;
        }

        private void add(int newKind, int newValue, int at) {
            if (count < kind.length) {
                kind[count] = newKind;
                value[count] = newValue;
                from[count] = at;
                count++;
            }
        }

        /** A token that is bad already stays so at its place: the first fault along the text counts. */
        private void spoil(int place) {
            if (count > 0 && kind[count - 1] != BAD) {
                kind[count - 1] = BAD;
                value[count - 1] = place;
            }
        }

        private void lengthen(int run, int octet, int at) {
            int last = count - 1;
            if (last < 0) {
                return;
            }
            int k = at - from[last];
            if (k == (run == NAME ? MOST_SIGNS : MOST_DIGITS)) {
                spoil(at);
            } else if (kind[last] == NAME) {
                value[last] |= octet - 'a' + 1 << k * LETTER_BITS;
            } else if (kind[last] == NUMBER) {
                value[last] = value[last] * 10 + octet - '0';
            }
        }

        private void markOwnWords() {
            int word = 0;
            int letters = 0;
            int index = 0;
            for (int i = 0; i < OWN_WORDS.length(); i++) {
                char sign = OWN_WORDS.charAt(i);
                if (sign == ' ') {
                    markOwnWord(word, index);
                    word = 0;
                    letters = 0;
                    index++;
                } else {
                    word |= sign - 'a' + 1 << letters * LETTER_BITS;
                    letters++;
                }
            }
        }

        private void markOwnWord(int word, int index) {
            for (int i = 0; i < count; i++) {
                if (kind[i] == NAME && value[i] == word) {
                    kind[i] = OWN;
                    value[i] = index;
                }
            }
        }
    }

    /** Reads a text as a union. Behind the first fault the token at hand is a bad one, which nothing takes. */
    private static final class Reader {
        private static final int FAULT_TEXT = 1;
        private static final int FAULT_GIVEN = 2;
        private static final int FAULT_TOWN = 3;
        private static final int FAULT_NUMBER = 4;
        private static final int FAULT_OPEN = 5;
        private static final int FAULT_MANY = 6;

        private static final int MOST_CARTS = 12;
        private static final int MOST_STATEMENTS = 80;
        private static final int MOST_OPEN = 7;
        private static final int MOST_STAMPS = 20;
        private static final int MOST_CART_DAYS = 9;
        private static final int MOST_ENCLOSED = 3;
        private static final int MOST_LOST = 100;

        private final Tokens tokens;
        private int next = NONE;
        private int kind = Tokens.END;
        private int value = 0;
        private int from = 0;
        private final Union into = new Union();
        private final int[] code;
        private int codeLength = 0;
        private int open = 0;
        private boolean inWorth = false;
        private int fault = 0;
        private int place = NONE;

        private Reader(byte[] text, int length) {
            tokens = new Tokens(length);
            tokens.split(text, length);
            code = new int[Math.max(0, length)];
            take();
        }

        private void readUnion() {
            for (int n = 0; n <= MOST_STATEMENTS && fault == 0 && kind != Tokens.END; n++) {
                if (n == MOST_STATEMENTS) {
                    fail(FAULT_MANY, from);
                } else {
                    readStatement();
                    skipSign(';');
                    into.statements++;
                }
            }
        }

        private void readStatement() {
            int statement = kind == Tokens.OWN ? value : NONE;
            switch (statement) {
                case Tokens.TOWN: readTown(); break;
                case Tokens.CART: readCart(); break;
                case Tokens.HOLDS: readHolds(); break;
                case Tokens.WRITES: into.writesCode = readRule(into.writesCode, statement); break;
                case Tokens.LIKES: into.likesCode = readRule(into.likesCode, statement); break;
                case Tokens.WORTH: into.worthCode = readRule(into.worthCode, statement); break;
                case Tokens.ENCL:
                    take();
                    into.enclosed = readNumber(0, MOST_ENCLOSED);
                    break;
                case Tokens.LOST:
                    take();
                    into.lostBelow = readNumber(0, MOST_LOST);
                    break;
                default: failHere(); break;
            }
        }

        private void readTown() {
            if (into.towns >= MOST_TOWNS) {
                fail(FAULT_MANY, from);
                return;
            }
            take();
            if (kind != Tokens.NAME) {
                failHere();
            } else if (into.townNamed(value) != NONE) {
                fail(FAULT_GIVEN, from);
            } else {
                into.names[into.towns] = value;
                into.towns++;
                take();
            }
        }

        private void readCart() {
            if (into.carts >= MOST_CARTS) {
                fail(FAULT_MANY, from);
                return;
            }
            take();
            int town = readNamed(NONE, true);
            skipOwn(Tokens.TO);
            int other = readNamed(town, true);
            skipOwn(Tokens.DAYS);
            int days = readNumber(1, MOST_CART_DAYS);
            if (fault == 0 && into.isPair(town, other)) {
                into.way[town * MOST_TOWNS + other] = days;
                into.way[other * MOST_TOWNS + town] = days;
                into.carts++;
            }
        }

        private void readHolds() {
            take();
            int town = readNamed(NONE, false);
            skipOwn(Tokens.OF);
            int other = readNamed(town, false);
            int stamps = readNumber(0, MOST_STAMPS);
            if (fault == 0 && into.isPair(town, other)) {
                into.start[town * MOST_TOWNS + other] = stamps;
            }
        }

        /** A town's name; as the second one of a pair it must be another town, for a cart without a cart so far. */
        private int readNamed(int first, boolean forCart) {
            if (kind != Tokens.NAME) {
                failHere();
                return NONE;
            }
            int town = into.townNamed(value);
            boolean wrong = town == NONE || town == first;
            if (!wrong && forCart && into.isPair(first, town)) {
                wrong = into.way[first * MOST_TOWNS + town] > 0;
            }
            if (wrong) {
                fail(FAULT_TOWN, from);
                return NONE;
            }
            take();
            return town;
        }

        private int readNumber(int least, int most) {
            if (kind != Tokens.NUMBER) {
                failHere();
                return 0;
            }
            int number = value;
            if (number < least || number > most) {
                fail(FAULT_NUMBER, from);
                return 0;
            }
            take();
            return number;
        }

        private int[] readRule(int[] before, int statement) {
            if (before != null) {
                fail(FAULT_MANY, from);
                return before;
            }
            take();
            codeLength = 0;
            inWorth = statement == Tokens.WORTH;
            if (statement == Tokens.WRITES) {
                readTest();
            } else {
                readSum();
            }
            return Arrays.copyOf(code, codeLength);
        }

        // the rules call one another; at most seven ( [ not are open at once, and each deeper level opens one

        private void readTest() {
            readBoth();
            for (int n = 0; n < MOST_BYTES && isOwn(Tokens.OR); n++) {
                take();
                readBoth();
                emit(Office.EITHER);
            }
        }

        private void readBoth() {
            readFact();
            for (int n = 0; n < MOST_BYTES && isOwn(Tokens.AND); n++) {
                take();
                readFact();
                emit(Office.BOTH);
            }
        }

        private void readFact() {
            if (isOwn(Tokens.NOT)) {
                if (opens()) {
                    readFact();
                    open--;
                    emit(Office.DENY);
                }
            } else if (isSign('[')) {
                if (opens()) {
                    readTest();
                    skipSign(']');
                    open--;
                }
            } else if (isOwn(Tokens.ALL)) {
                take();
                emit(Office.TOLD + 1);
            } else {
                readComparison();
            }
        }

        private void readComparison() {
            readSum();
            int sign = kind == Tokens.SIGN ? value : NONE;
            if (sign != '<' && sign != '>' && sign != '=') {
                failHere();
                return;
            }
            take();
            readSum();
            emit(sign == '<' ? Office.BELOW : sign == '>' ? Office.ABOVE : Office.ALIKE);
        }

        private void readSum() {
            readProduct();
            for (int n = 0; n < MOST_BYTES && (isSign('+') || isSign('-')); n++) {
                int join = isSign('+') ? Office.ADD : Office.LESS;
                take();
                readProduct();
                emit(join);
            }
        }

        private void readProduct() {
            readPart();
            for (int n = 0; n < MOST_BYTES && (isSign('*') || isSign('/') || isSign('%')); n++) {
                int join = isSign('*') ? Office.TIMES : isSign('/') ? Office.OVER : Office.REST;
                take();
                readPart();
                emit(join);
            }
        }

        private void readPart() {
            if (kind == Tokens.NUMBER) {
                emit(Office.TOLD + value);
                take();
            } else if (isSign('(')) {
                if (opens()) {
                    readSum();
                    skipSign(')');
                    open--;
                }
            } else if (isOwn(Tokens.MIN) || isOwn(Tokens.MAX)) {
                readExtreme(isOwn(Tokens.MIN) ? Office.SMALLER : Office.GREATER);
            } else if (isOwn(Tokens.IF)) {
                readChoice();
            } else {
                readFactNamed();
            }
        }

        private void readFactNamed() {
            int named = kind == Tokens.OWN ? value : NONE;
            boolean counted = named == Tokens.SENT || named == Tokens.GOT;
            if (named < Tokens.HELD || named > Tokens.GOT || counted && inWorth) {
                failHere();
                return;
            }
            take();
            // these own words and what reads them stand in the same order
            emit(Office.READ_HELD + named - Tokens.HELD);
        }

        private void readExtreme(int join) {
            take();
            if (opensWithParenthesis()) {
                readSum();
                skipSign(',');
                readSum();
                skipSign(')');
                open--;
                emit(join);
            }
        }

        private void readChoice() {
            take();
            if (opensWithParenthesis()) {
                readTest();
                skipSign(',');
                readSum();
                skipSign(',');
                readSum();
                skipSign(')');
                open--;
                emit(Office.CHOOSE);
            }
        }

        private boolean opensWithParenthesis() {
            if (!isSign('(')) {
                failHere();
                return false;
            }
            return opens();
        }

        private boolean opens() {
            if (open >= MOST_OPEN) {
                fail(FAULT_OPEN, from);
                return false;
            }
            open++;
            take();
            return true;
        }

        private void emit(int act) {
            if (codeLength < code.length) {
                code[codeLength] = act;
                codeLength++;
            }
        }

        private boolean isSign(int sign) {
            return kind == Tokens.SIGN && value == sign;
        }

        private boolean isOwn(int word) {
            return kind == Tokens.OWN && value == word;
        }

        private void skipSign(int sign) {
            if (isSign(sign)) {
                take();
            } else {
                failHere();
            }
        }

        private void skipOwn(int word) {
            if (isOwn(word)) {
                take();
            } else {
                failHere();
            }
        }

        private void take() {
            if (fault == 0 && next < tokens.count - 1) {
                next++;
                kind = tokens.kind[next];
                value = tokens.value[next];
                from = tokens.from[next];
            }
        }

        private void failHere() {
            fail(FAULT_TEXT, kind == Tokens.BAD ? value : from);
        }

        private void fail(int which, int at) {
            if (fault == 0) {
                fault = which;
                place = at;
                kind = Tokens.BAD;
            }
        }
    }
}
