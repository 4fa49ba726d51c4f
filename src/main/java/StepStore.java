import java.util.Arrays;

/**
 * A store of little steps that makes one machine be another: what each call must do stands in DOC.md.
 * Every row is made in the constructor and used again, since all calls of a run live in one room.
 */
public final class StepStore {
    public static final int NONE = -1;
    public static final int MISSING = -2;
    public static final int BEYOND = -3;
    public static final int BELOW = -4;
    public static final int COPY = -5;
    public static final int NO = -6;
    public static final int FULL = -7;

    private static final int REGISTERS = 8;
    private static final int FLAGS = 2;
    private static final int CELLS = 64;
    private static final int FIRST_WIDTH = 16;
    private static final int MOST_WIDTH = 32;
    private static final int CELL_BITS = 32;
    private static final int PC = 7;

    // Registers, flags and cells are one row of numbers, so that images and comparisons are one loop.
    private static final int ZERO = REGISTERS;
    private static final int TOP = ZERO + 1;
    private static final int FIRST_CELL = REGISTERS + FLAGS;
    private static final int NUMBERS = FIRST_CELL + CELLS;

    private static final int INSTRUCTIONS = 12;
    private static final int MOST_ACTS = 10;
    private static final int SLOTS = INSTRUCTIONS * MOST_ACTS;
    private static final int MOST_WRITES = 3 * MOST_ACTS;

    private static final int SET = 0;
    private static final int MOVE = 1;
    private static final int ADD = 2;
    private static final int LESS = 3;
    private static final int BOTH = 4;
    private static final int UNLIKE = 5;
    private static final int SHIFT = 6;
    private static final int FETCH = 7;
    private static final int STORE = 8;
    private static final int SKIP = 9;
    private static final int CHECK = 10;
    private static final int KINDS = 11;

    private static final int BUS = 0;
    private static final int WORKER = 1;
    private static final int PARTS = 5;
    private static final int MOST_BUSES = 3;
    private static final int FIELDS = MOST_BUSES + PARTS - 1;
    private static final int[] PART_OF_KIND = {0, 0, 1, 1, 1, 1, 2, 3, 3, 4, 4};

    // The sorts of number that d, x and y of a kind are: 0 absent, 1 register, 2 byte, 3 power, 4 bit.
    private static final int ABSENT = 0;
    private static final int REGISTER = 1;
    private static final int[] SORT_OF_D = {1, 1, 1, 1, 1, 1, 1, 1, 0, 0, 0};
    private static final int[] SORT_OF_X = {2, 1, 1, 1, 1, 1, 1, 1, 1, 4, 4};
    private static final int[] SORT_OF_Y = {0, 0, 1, 1, 1, 1, 3, 0, 1, 4, 4};
    private static final int[] LEAST_OF_SORT = {0, 0, 0, -31, 0};
    private static final int[] MOST_OF_SORT = {0, 7, 255, 31, 1};

    private static final int NOTHING = 0;
    private static final int SAME_OR_LATER = 1;
    private static final int LATER = 2;

    private static final int WENT_ON = 0;
    private static final int SKIPPED = 1;
    private static final int TRAPPED = 2;

    private static final int CODES = 16;
    private static final int MOST_STEPS = 1000;
    private static final int ALL_DONE = 0;
    private static final int PC_BEYOND = 1;
    private static final int NO_CODE = 2;

    private static final int REFUSALS = 8;

    private final Inside inside = new Inside();
    private final Rows rows = new Rows();
    private final Packing packing = new Packing(rows);
    private final Places places = new Places(rows, packing);
    private final Fields fields = new Fields(rows, places);
    private final Doer doer = new Doer(inside, rows, packing);
    private final int[] told = new int[3];
    private final int[] table = new int[CODES];
    private int steps;
    private int traps;
    private int ended;
    private final long[] image = new long[NUMBERS];
    private boolean hasImage;
    private final short[] line = new short[CELLS];
    private int lineLength;
    private final int[] refused = new int[REFUSALS];

    public StepStore() {
        Arrays.fill(table, NONE);
        told[2] = NONE;
        lineLength = NONE;
    }

    // ---- the inside

    public int width(int register, int w) {
        if (!isRegister(register)) {
            return refuse(BEYOND);
        }
        if (w < 1 || w > MOST_WIDTH) {
            return refuse(NO);
        }
        int before = inside.widths[register];
        inside.widths[register] = w;
        inside.put(register, inside.numbers[register]);
        return before;
    }

    public int set(int register, long v) {
        if (!isRegister(register)) {
            return refuse(BEYOND);
        }
        return inside.put(register, v);
    }

    public long register(int register) {
        if (!isRegister(register)) {
            refuse(BEYOND);
            return 0;
        }
        return inside.numbers[register];
    }

    public int poke(int cell, long v) {
        if (!isCell(cell)) {
            return refuse(BEYOND);
        }
        return inside.put(FIRST_CELL + cell, v);
    }

    public long cell(int cell) {
        if (!isCell(cell)) {
            refuse(BEYOND);
            return 0;
        }
        return inside.numbers[FIRST_CELL + cell];
    }

    public int flag(int flag, boolean is) {
        if (flag < 0 || flag >= FLAGS) {
            return refuse(BEYOND);
        }
        int before = (int) inside.numbers[ZERO + flag];
        inside.put(ZERO + flag, is ? 1 : 0);
        return before;
    }

    public int flags() {
        return (int) (inside.numbers[ZERO] + 2 * inside.numbers[TOP]);
    }

    // ---- rows

    public int act(int instruction, int kind, int d, int x, int y) {
        if (!isInstruction(instruction)) {
            return refuse(BEYOND);
        }
        if (!isAct(kind, d, x, y)) {
            return refuse(NO);
        }
        if (rows.lengths[instruction] >= MOST_ACTS) {
            return refuse(FULL);
        }
        rows.add(instruction, kind, d, x, y);
        takeAwayPackedOf(instruction);
        return rows.lengths[instruction];
    }

    public int clear(int instruction) {
        if (!isInstruction(instruction)) {
            return refuse(BEYOND);
        }
        int before = rows.lengths[instruction];
        if (before > 0) {
            rows.lengths[instruction] = 0;
            takeAwayPackedOf(instruction);
        }
        return before;
    }

    public int look(int instruction, int i, int what) {
        if (!hasAct(instruction, i)) {
            return refuse(BEYOND);
        }
        int slot = slot(instruction, i);
        switch (what) {
            case 0:
                return rows.kinds[slot];
            case 1:
                return rows.ds[slot];
            case 2:
                return rows.xs[slot];
            case 3:
                return rows.ys[slot];
            case 4:
                return rows.partOf(slot);
            case 5:
                return rows.canTrap(slot) ? 1 : 0;
            default:
                return refuse(NO);
        }
    }

    public int buses(int n) {
        if (n < 1 || n > MOST_BUSES) {
            return refuse(NO);
        }
        int before = packing.buses;
        if (n != before) {
            packing.buses = n;
            packing.dropAll();
            places.made = false;
        }
        return before;
    }

    public int needs(int instruction, int i, int j) {
        if (!hasAct(instruction, i) || !hasAct(instruction, j)) {
            return refuse(BEYOND);
        }
        if (i >= j) {
            return refuse(NO);
        }
        return rows.need(slot(instruction, i), slot(instruction, j));
    }

    // ---- words

    public int pack(int instruction) {
        if (!isInstruction(instruction)) {
            return refuse(BEYOND);
        }
        packing.make(instruction);
        return packing.lengths[instruction];
    }

    public int word(int instruction, int i) {
        if (!hasAct(instruction, i)) {
            return refuse(BEYOND);
        }
        if (!packing.made[instruction]) {
            return refuse(MISSING);
        }
        return packing.wordOf[slot(instruction, i)];
    }

    public int why(int instruction, int i) {
        if (!hasAct(instruction, i)) {
            return refuse(BEYOND);
        }
        if (!packing.made[instruction]) {
            return refuse(MISSING);
        }
        return packing.holderOf(instruction, i);
    }

    public int store() {
        if (!places.made) {
            for (int instruction = 0; instruction < INSTRUCTIONS; instruction++) {
                packing.make(instruction);
            }
            places.make();
            fields.make();
        }
        return places.length;
    }

    public int place(int instruction, int i) {
        if (!isInstruction(instruction)) {
            return refuse(BEYOND);
        }
        if (!places.made) {
            return refuse(MISSING);
        }
        if (i < 0 || i >= packing.lengths[instruction]) {
            return refuse(BEYOND);
        }
        return places.placeOf[slot(instruction, i)];
    }

    public int at(int place, int what) {
        if (!places.made) {
            return refuse(MISSING);
        }
        if (place < 0 || place >= places.length) {
            return refuse(BEYOND);
        }
        switch (what) {
            case 0:
                return Integer.bitCount(places.acts[place]);
            case 1:
                return places.nexts[place];
            case 2:
                return places.users[place];
            default:
                return refuse(NO);
        }
    }

    public int group(int field) {
        if (field < 0 || field >= FIELDS) {
            return refuse(BEYOND);
        }
        if (!places.made) {
            return refuse(MISSING);
        }
        return fields.groupOf[field];
    }

    public int narrow(int what) {
        if (!places.made) {
            return refuse(MISSING);
        }
        switch (what) {
            case 0:
                return fields.wordBits;
            case 1:
                return fields.wordBits * places.length;
            case 2:
                return fields.groups;
            case 3:
                return fields.seen;
            default:
                return refuse(NO);
        }
    }

    // ---- doing

    public int run(int instruction, boolean words) {
        if (!isInstruction(instruction)) {
            return refuse(BEYOND);
        }
        if (words) {
            packing.make(instruction);
        }
        int how = doer.perform(instruction, words);
        keepTold();
        return how;
    }

    public int told(int what) {
        if (what < 0 || what >= told.length) {
            return refuse(NO);
        }
        return told[what];
    }

    public int beside(int instruction) {
        if (!isInstruction(instruction)) {
            return refuse(BEYOND);
        }
        // Nothing may change by this call: what was not packed ahead of it is not packed behind it.
        boolean wasPacked = packing.made[instruction];
        packing.make(instruction);
        boolean alike = doer.endsAlike(instruction);
        packing.made[instruction] = wasPacked;
        return alike ? 0 : 1;
    }

    public int code(int code, int instruction) {
        if (code < 0 || code >= CODES) {
            return refuse(BEYOND);
        }
        if (instruction != NONE && !isInstruction(instruction)) {
            return refuse(BEYOND);
        }
        int before = table[code];
        table[code] = instruction;
        return before;
    }

    public int step(int n) {
        if (n < 0) {
            return refuse(BELOW);
        }
        if (n == 0 || n > MOST_STEPS) {
            return refuse(NO);
        }
        int done = 0;
        ended = ALL_DONE;
        for (int turn = 0; turn < n && ended == ALL_DONE; turn++) {
            ended = doStep();
            if (ended == ALL_DONE) {
                done++;
            }
        }
        steps += done;
        return done;
    }

    public int count(int what) {
        switch (what) {
            case 0:
                return steps;
            case 1:
                return traps;
            case 2:
                return ended;
            default:
                return refuse(NO);
        }
    }

    public int image() {
        int others = 0;
        for (int i = 0; i < NUMBERS; i++) {
            image[i] = inside.numbers[i];
            if (image[i] != 0) {
                others++;
            }
        }
        hasImage = true;
        return others;
    }

    public int restore() {
        if (!hasImage) {
            return refuse(MISSING);
        }
        int others = 0;
        for (int i = 0; i < NUMBERS; i++) {
            others += inside.put(i, image[i]);
        }
        return others;
    }

    // ---- rows of numbers

    public int lay(int from, int n) {
        if (n < 0) {
            return refuse(BELOW);
        }
        if (n > CELLS || from < 0 || from > CELLS - n) {
            return refuse(BEYOND);
        }
        for (int i = 0; i < n; i++) {
            line[i] = (short) inside.numbers[FIRST_CELL + from + i];
        }
        lineLength = n;
        return n;
    }

    public int tear() {
        int was = lineLength == NONE ? 0 : 1;
        lineLength = NONE;
        return was;
    }

    public int row(int i) {
        if (lineLength == NONE) {
            return refuse(MISSING);
        }
        if (i < 0 || i >= lineLength) {
            return refuse(BEYOND);
        }
        return line[i];
    }

    public int copy(int i, int j, int n) {
        if (lineLength == NONE) {
            return refuse(MISSING);
        }
        if (n < 0) {
            return refuse(BELOW);
        }
        if (n > lineLength || i < 0 || i > lineLength - n || j < 0 || j > lineLength - n) {
            return refuse(COPY);
        }
        System.arraycopy(line, i, line, j, n);
        return n;
    }

    public int status(int by) {
        if (by > MISSING || by < FULL) {
            return refuse(NO);
        }
        return refused[-by];
    }

    /** Row answers and powers may look like refusals, so refusals are counted here alone. */
    private int refuse(int by) {
        refused[-by]++;
        return by;
    }

    private boolean hasAct(int instruction, int i) {
        return isInstruction(instruction) && i >= 0 && i < rows.lengths[instruction];
    }

    private void takeAwayPackedOf(int instruction) {
        packing.made[instruction] = false;
        places.made = false;
    }

    /** Kept apart from the doer, since beside() does instructions of which nothing is told. */
    private void keepTold() {
        told[0] = doer.actsDone;
        told[1] = doer.wordsDone;
        told[2] = doer.trapped;
    }

    private int doStep() {
        long pc = inside.numbers[PC];
        if (pc >= CELLS) {
            return PC_BEYOND;
        }
        int instruction = table[(int) (inside.numbers[FIRST_CELL + (int) pc] % CODES)];
        if (instruction == NONE) {
            return NO_CODE;
        }
        packing.make(instruction);
        inside.put(PC, pc + 1);
        if (doer.perform(instruction, true) == TRAPPED) {
            traps++;
        }
        keepTold();
        return ALL_DONE;
    }

    private static boolean isRegister(int register) {
        return register >= 0 && register < REGISTERS;
    }

    private static boolean isCell(long cell) {
        return cell >= 0 && cell < CELLS;
    }

    private static boolean isInstruction(int instruction) {
        return instruction >= 0 && instruction < INSTRUCTIONS;
    }

    private static boolean isAct(int kind, int d, int x, int y) {
        return kind >= 0 && kind < KINDS
                && isOfSort(SORT_OF_D[kind], d)
                && isOfSort(SORT_OF_X[kind], x)
                && isOfSort(SORT_OF_Y[kind], y);
    }

    private static boolean isOfSort(int sort, int v) {
        return sort == ABSENT || v >= LEAST_OF_SORT[sort] && v <= MOST_OF_SORT[sort];
    }

    private static int slot(int instruction, int i) {
        return instruction * MOST_ACTS + i;
    }

    private static boolean isIn(int set, int i) {
        return (set >> i & 1) != 0;
    }

    /** Registers, flags and cells, with the way back to what they were ahead of an instruction. */
    private static final class Inside {
        final int[] widths = new int[REGISTERS];
        final long[] numbers = new long[NUMBERS];
        private final int[] oldPlaces = new int[MOST_WRITES];
        private final long[] oldNumbers = new long[MOST_WRITES];
        private int olds;

        Inside() {
            Arrays.fill(widths, FIRST_WIDTH);
        }

        /** Flags only ever get 0 or 1, so what is no register is cut as a cell. */
        long cutFor(int place, long v) {
            int bits = place < REGISTERS ? widths[place] : CELL_BITS;
            return v & ((1L << bits) - 1);
        }

        int put(int place, long v) {
            long before = numbers[place];
            numbers[place] = cutFor(place, v);
            return numbers[place] == before ? 0 : 1;
        }

        void forgetOlds() {
            olds = 0;
        }

        void putAndRemember(int place, long v) {
            if (olds < MOST_WRITES) {
                oldPlaces[olds] = place;
                oldNumbers[olds] = numbers[place];
                olds++;
            }
            put(place, v);
        }

        /** The latest goes back first, since a place may have been written more than once. */
        void goBack() {
            for (int i = olds - 1; i >= 0; i--) {
                numbers[oldPlaces[i]] = oldNumbers[i];
            }
            olds = 0;
        }
    }

    /** The acts of all instructions, each in a slot; things read and written are bits, all cells one bit. */
    private static final class Rows {
        final int[] lengths = new int[INSTRUCTIONS];
        final int[] kinds = new int[SLOTS];
        final int[] ds = new int[SLOTS];
        final int[] xs = new int[SLOTS];
        final int[] ys = new int[SLOTS];
        private final int[] reads = new int[SLOTS];
        private final int[] writes = new int[SLOTS];

        void add(int instruction, int kind, int d, int x, int y) {
            int slot = slot(instruction, lengths[instruction]);
            kinds[slot] = kind;
            // What a kind has not is NONE, so that acts that differ there alone are the same.
            ds[slot] = SORT_OF_D[kind] == ABSENT ? NONE : d;
            xs[slot] = x;
            ys[slot] = SORT_OF_Y[kind] == ABSENT ? NONE : y;
            reads[slot] = readsOf(kind, x, y);
            writes[slot] = writesOf(kind, d);
            lengths[instruction]++;
        }

        private static int readsOf(int kind, int x, int y) {
            int things = 0;
            if (SORT_OF_X[kind] == REGISTER) {
                things |= 1 << x;
            }
            if (SORT_OF_Y[kind] == REGISTER) {
                things |= 1 << y;
            }
            if (kind == FETCH) {
                things |= 1 << FIRST_CELL;
            }
            if (kind == SKIP || kind == CHECK) {
                things |= 1 << (ZERO + x);
            }
            return things;
        }

        private static int writesOf(int kind, int d) {
            int things = 0;
            if (SORT_OF_D[kind] == REGISTER) {
                things |= 1 << d;
            }
            if (PART_OF_KIND[kind] == WORKER) {
                things |= 1 << ZERO | 1 << TOP;
            }
            if (kind == STORE) {
                things |= 1 << FIRST_CELL;
            }
            return things;
        }

        int partOf(int slot) {
            return PART_OF_KIND[kinds[slot]];
        }

        boolean canTrap(int slot) {
            int kind = kinds[slot];
            return kind == FETCH || kind == STORE || kind == CHECK;
        }

        boolean same(int a, int b) {
            return kinds[a] == kinds[b] && ds[a] == ds[b] && xs[a] == xs[b] && ys[a] == ys[b];
        }

        /** What the act in slot b needs of the one in slot a, which stands before it. */
        int need(int a, int b) {
            if ((writes[a] & (reads[b] | writes[b])) != 0 || kinds[a] == SKIP) {
                return LATER;
            }
            if (canTrap(a) && (writes[b] != 0 || canTrap(b))) {
                return LATER;
            }
            if ((reads[a] & writes[b]) != 0 || kinds[b] == SKIP) {
                return SAME_OR_LATER;
            }
            return NOTHING;
        }
    }

    /** Looks for the packing of one instruction; sets of acts are bits, as the document counts them. */
    private static final class Search {
        final int[] chosen = new int[MOST_ACTS];
        private final Rows rows;
        private final int[] earlier = new int[MOST_ACTS];
        private final int[] notAfter = new int[MOST_ACTS];
        private final int[] wordsBehind = new int[MOST_ACTS];
        private final int[] ofPart = new int[PARTS];
        private final int[] rooms = new int[PARTS];
        // By the acts that are done: the most words that are known not to do for the rest.
        private final byte[] tooFew = new byte[1 << MOST_ACTS];
        private int length;
        private int words;

        Search(Rows rows) {
            this.rows = rows;
        }

        /** How many words the instruction has; chosen has the acts of each. */
        int solve(int instruction, int buses) {
            length = rows.lengths[instruction];
            learnParts(instruction, buses);
            learnNeeds(instruction);
            for (int done = 0; done < 1 << length; done++) {
                tooFew[done] = 0;
            }
            words = 0;
            while (!fill(this, 0, 0) && words < length) {
                words++;
            }
            return words;
        }

        private void learnParts(int instruction, int buses) {
            Arrays.fill(ofPart, 0);
            Arrays.fill(rooms, 1);
            rooms[BUS] = buses;
            for (int i = 0; i < length; i++) {
                ofPart[rows.partOf(slot(instruction, i))] |= 1 << i;
            }
        }

        private void learnNeeds(int instruction) {
            Arrays.fill(earlier, 0);
            Arrays.fill(notAfter, 0);
            Arrays.fill(wordsBehind, 0);
            for (int a = length - 1; a >= 0; a--) {
                for (int b = a + 1; b < length; b++) {
                    int need = rows.need(slot(instruction, a), slot(instruction, b));
                    if (need == LATER) {
                        earlier[b] |= 1 << a;
                        wordsBehind[a] = Math.max(wordsBehind[a], wordsBehind[b] + 1);
                    } else if (need == SAME_OR_LATER) {
                        notAfter[b] |= 1 << a;
                        wordsBehind[a] = Math.max(wordsBehind[a], wordsBehind[b]);
                    }
                }
            }
        }

        /**
         * Whether the acts that are not done fit into the words from this one on. Sets are tried from
         * the least on, so the first way that is found is the one that the document wants.
         */
        private static boolean fill(Search s, int done, int word) {
            int rest = ((1 << s.length) - 1) & ~done;
            if (rest == 0) {
                return true;
            }
            int left = s.words - word;
            if (left <= 0 || s.tooFew[done] >= left || s.areTooMany(rest, left)) {
                return false;
            }
            int ready = s.readyAfter(done);
            int urgent = s.urgentOf(rest, left);
            int free = ready & ~urgent;
            int some = 0;
            for (int turn = 0; turn < 1 << MOST_ACTS; turn++) {
                int acts = some | urgent;
                if (acts != 0 && s.canMeet(acts, ready, done) && fill(s, done | acts, word + 1)) {
                    s.chosen[word] = acts;
                    return true;
                }
                some = (some - free) & free;
                if (some == 0) {
                    break;
                }
            }
            s.tooFew[done] = (byte) left;
            return false;
        }

        private boolean areTooMany(int rest, int left) {
            for (int part = 0; part < PARTS; part++) {
                if (Integer.bitCount(rest & ofPart[part]) > rooms[part] * left) {
                    return true;
                }
            }
            for (int i = 0; i < length; i++) {
                if (isIn(rest, i) && wordsBehind[i] >= left) {
                    return true;
                }
            }
            return false;
        }

        /** Acts that could stand in the next word, if all that they need in it stand there too. */
        private int readyAfter(int done) {
            int ready = 0;
            for (int i = 0; i < length; i++) {
                boolean free = (earlier[i] & ~done) == 0 && (notAfter[i] & ~(done | ready)) == 0;
                if (free && !isIn(done, i)) {
                    ready |= 1 << i;
                }
            }
            return ready;
        }

        /** Acts that must stand in the next word, since the words behind it are needed for others. */
        private int urgentOf(int rest, int left) {
            int urgent = 0;
            for (int i = 0; i < length; i++) {
                if (isIn(rest, i) && wordsBehind[i] == left - 1) {
                    urgent |= 1 << i;
                }
            }
            return urgent;
        }

        private boolean canMeet(int acts, int ready, int done) {
            if ((acts & ~ready) != 0) {
                return false;
            }
            for (int part = 0; part < PARTS; part++) {
                if (Integer.bitCount(acts & ofPart[part]) > rooms[part]) {
                    return false;
                }
            }
            for (int i = 0; i < length; i++) {
                if (isIn(acts, i) && (notAfter[i] & ~(done | acts)) != 0) {
                    return false;
                }
            }
            return true;
        }
    }

    /** The words of the instructions that are packed. */
    private static final class Packing {
        final boolean[] made = new boolean[INSTRUCTIONS];
        final int[] lengths = new int[INSTRUCTIONS];
        final int[] wordOf = new int[SLOTS];
        final int[] actsOf = new int[SLOTS];
        int buses = 1;
        private final Rows rows;
        private final Search search;

        Packing(Rows rows) {
            this.rows = rows;
            this.search = new Search(rows);
        }

        void make(int instruction) {
            if (made[instruction]) {
                return;
            }
            int length = search.solve(instruction, buses);
            for (int w = 0; w < length; w++) {
                int acts = search.chosen[w];
                actsOf[slot(instruction, w)] = acts;
                for (int i = 0; i < MOST_ACTS; i++) {
                    if (isIn(acts, i)) {
                        wordOf[slot(instruction, i)] = w;
                    }
                }
            }
            lengths[instruction] = length;
            made[instruction] = true;
        }

        void dropAll() {
            for (int instruction = 0; instruction < INSTRUCTIONS; instruction++) {
                made[instruction] = false;
            }
        }

        /** The least act for which act i can't be in a lesser word, or NONE. */
        int holderOf(int instruction, int i) {
            int slot = slot(instruction, i);
            for (int before = 0; before < i; before++) {
                int other = slot(instruction, before);
                int need = rows.need(other, slot);
                int between = wordOf[slot] - wordOf[other];
                if (need == LATER && between == 1 || need == SAME_OR_LATER && between == 0) {
                    return before;
                }
            }
            return NONE;
        }
    }

    /** THE STORE: each place has the acts of a word of the first instruction that laid it there. */
    private static final class Places {
        boolean made;
        int length;
        final int[] owners = new int[SLOTS];
        final int[] acts = new int[SLOTS];
        final int[] nexts = new int[SLOTS];
        final int[] users = new int[SLOTS];
        final int[] placeOf = new int[SLOTS];
        private final Rows rows;
        private final Packing packing;

        Places(Rows rows, Packing packing) {
            this.rows = rows;
            this.packing = packing;
        }

        void make() {
            length = 0;
            for (int instruction = 0; instruction < INSTRUCTIONS; instruction++) {
                int next = NONE;
                for (int w = packing.lengths[instruction] - 1; w >= 0; w--) {
                    int slot = slot(instruction, w);
                    next = findOrAdd(instruction, packing.actsOf[slot], next);
                    users[next]++;
                    placeOf[slot] = next;
                }
            }
            made = true;
        }

        private int findOrAdd(int instruction, int set, int next) {
            for (int place = 0; place < length; place++) {
                if (nexts[place] == next && hasSameActs(place, instruction, set)) {
                    return place;
                }
            }
            owners[length] = instruction;
            acts[length] = set;
            nexts[length] = next;
            users[length] = 0;
            length++;
            return length - 1;
        }

        private boolean hasSameActs(int place, int instruction, int set) {
            int there = acts[place];
            if (Integer.bitCount(there) != Integer.bitCount(set)) {
                return false;
            }
            int j = 0;
            for (int i = 0; i < MOST_ACTS; i++) {
                if (isIn(set, i)) {
                    j = firstIn(there, j);
                    if (!rows.same(slot(instruction, i), slot(owners[place], j))) {
                        return false;
                    }
                    j++;
                }
            }
            return true;
        }

        private static int firstIn(int set, int from) {
            for (int i = from; i < MOST_ACTS; i++) {
                if (isIn(set, i)) {
                    return i;
                }
            }
            return 0;
        }
    }

    /** The fields of THE STORE, those that never meet in one group. */
    private static final class Fields {
        final int[] groupOf = new int[FIELDS];
        int groups;
        int wordBits;
        int seen;
        private final int[] seenSlots = new int[SLOTS];
        private final int[] seenFields = new int[SLOTS];
        private final int[] different = new int[FIELDS];
        private final int[] meets = new int[FIELDS];
        private final int[] fieldsOfGroup = new int[FIELDS];
        private final int[] actsOfGroup = new int[FIELDS];
        private final Rows rows;
        private final Places places;

        Fields(Rows rows, Places places) {
            this.rows = rows;
            this.places = places;
        }

        void make() {
            seen = 0;
            Arrays.fill(different, 0);
            Arrays.fill(meets, 0);
            for (int place = 0; place < places.length; place++) {
                learnMeetings(learnActs(places.owners[place], places.acts[place]));
            }
            makeGroups();
            wordBits = bitsToTell(places.length + 1);
            for (int g = 0; g < groups; g++) {
                wordBits += bitsToTell(actsOfGroup[g] + 1);
            }
        }

        /** The fields that have an act in this word. */
        private int learnActs(int instruction, int acts) {
            int present = 0;
            int bus = 0;
            for (int i = 0; i < MOST_ACTS; i++) {
                if (isIn(acts, i)) {
                    int slot = slot(instruction, i);
                    int part = rows.partOf(slot);
                    int field = part == BUS ? bus++ : MOST_BUSES + part - 1;
                    present |= 1 << field;
                    addIfNew(slot, field);
                }
            }
            return present;
        }

        private void addIfNew(int slot, int field) {
            for (int i = 0; i < seen; i++) {
                if (seenFields[i] == field && rows.same(seenSlots[i], slot)) {
                    return;
                }
            }
            seenSlots[seen] = slot;
            seenFields[seen] = field;
            seen++;
            different[field]++;
        }

        private void learnMeetings(int present) {
            for (int field = 0; field < FIELDS; field++) {
                if (isIn(present, field)) {
                    meets[field] |= present;
                }
            }
        }

        private void makeGroups() {
            groups = 0;
            Arrays.fill(fieldsOfGroup, 0);
            Arrays.fill(actsOfGroup, 0);
            for (int field = 0; field < FIELDS; field++) {
                groupOf[field] = NONE;
                if (different[field] > 0) {
                    int g = firstGroupFor(field);
                    groupOf[field] = g;
                    fieldsOfGroup[g] |= 1 << field;
                    actsOfGroup[g] += different[field];
                    groups = Math.max(groups, g + 1);
                }
            }
        }

        private int firstGroupFor(int field) {
            for (int g = 0; g < groups; g++) {
                if ((fieldsOfGroup[g] & meets[field]) == 0) {
                    return g;
                }
            }
            return groups;
        }

        private static int bitsToTell(int ways) {
            int bits = 0;
            for (int tellable = 1; tellable < ways; tellable *= 2) {
                bits++;
            }
            return bits;
        }
    }

    /** Does instructions: plainly each act is a word of its own. */
    private static final class Doer {
        int actsDone;
        int wordsDone;
        int trapped = NONE;
        private final Inside inside;
        private final Rows rows;
        private final Packing packing;
        private final int[] waitingPlaces = new int[MOST_WRITES];
        private final long[] waitingNumbers = new long[MOST_WRITES];
        private int waiting;
        private final long[] otherEnd = new long[NUMBERS];

        Doer(Inside inside, Rows rows, Packing packing) {
            this.inside = inside;
            this.rows = rows;
            this.packing = packing;
        }

        /** By words it must be packed ahead. */
        int perform(int instruction, boolean byWords) {
            inside.forgetOlds();
            trapped = NONE;
            actsDone = 0;
            wordsDone = 0;
            int length = byWords ? packing.lengths[instruction] : rows.lengths[instruction];
            int how = WENT_ON;
            for (int w = 0; w < length && how == WENT_ON; w++) {
                int acts = byWords ? packing.actsOf[slot(instruction, w)] : 1 << w;
                how = doTogether(instruction, acts);
                actsDone += Integer.bitCount(acts);
                if (byWords) {
                    wordsDone++;
                }
            }
            return how;
        }

        boolean endsAlike(int instruction) {
            int how = perform(instruction, true);
            System.arraycopy(inside.numbers, 0, otherEnd, 0, NUMBERS);
            inside.goBack();
            boolean alike = perform(instruction, false) == how && isOtherEnd();
            inside.goBack();
            return alike;
        }

        private boolean isOtherEnd() {
            for (int i = 0; i < NUMBERS; i++) {
                if (inside.numbers[i] != otherEnd[i]) {
                    return false;
                }
            }
            return true;
        }

        private int doTogether(int instruction, int acts) {
            waiting = 0;
            boolean skips = false;
            for (int i = 0; i < MOST_ACTS; i++) {
                if (isIn(acts, i)) {
                    int how = take(slot(instruction, i));
                    skips |= how == SKIPPED;
                    if (how == TRAPPED && trapped == NONE) {
                        trapped = i;
                    }
                }
            }
            if (trapped != NONE) {
                inside.goBack();
                return TRAPPED;
            }
            for (int i = 0; i < waiting; i++) {
                inside.putAndRemember(waitingPlaces[i], waitingNumbers[i]);
            }
            return skips ? SKIPPED : WENT_ON;
        }

        /** Reads for one act; what it writes waits till all acts of its word have read. */
        private int take(int slot) {
            int d = rows.ds[slot];
            int x = rows.xs[slot];
            int y = rows.ys[slot];
            switch (rows.kinds[slot]) {
                case SET:
                    putLater(d, x);
                    return WENT_ON;
                case MOVE:
                    putLater(d, inside.numbers[x]);
                    return WENT_ON;
                case SHIFT:
                    putLater(d, y < 0 ? inside.numbers[x] >> -y : inside.numbers[x] << y);
                    return WENT_ON;
                case FETCH:
                    return fetch(d, inside.numbers[x]);
                case STORE:
                    return keep(inside.numbers[x], inside.numbers[y]);
                case SKIP:
                    return inside.numbers[ZERO + x] == y ? SKIPPED : WENT_ON;
                case CHECK:
                    return inside.numbers[ZERO + x] == y ? TRAPPED : WENT_ON;
                default:
                    work(rows.kinds[slot], d, inside.numbers[x], inside.numbers[y]);
                    return WENT_ON;
            }
        }

        private int fetch(int d, long cell) {
            if (!isCell(cell)) {
                return TRAPPED;
            }
            putLater(d, inside.numbers[FIRST_CELL + (int) cell]);
            return WENT_ON;
        }

        private int keep(long cell, long v) {
            if (!isCell(cell)) {
                return TRAPPED;
            }
            putLater(FIRST_CELL + (int) cell, v);
            return WENT_ON;
        }

        private void work(int kind, int d, long x, long y) {
            long gets = 0;
            boolean top = false;
            switch (kind) {
                case ADD:
                    gets = x + y;
                    top = gets != inside.cutFor(d, gets);
                    break;
                case LESS:
                    gets = x - y;
                    top = y > x;
                    break;
                case BOTH:
                    gets = x & y;
                    break;
                case UNLIKE:
                    gets = x ^ y;
                    break;
                default:
                    break;
            }
            putLater(d, gets);
            putLater(ZERO, inside.cutFor(d, gets) == 0 ? 1 : 0);
            putLater(TOP, top ? 1 : 0);
        }

        private void putLater(int place, long v) {
            if (waiting < MOST_WRITES) {
                waitingPlaces[waiting] = place;
                waitingNumbers[waiting] = v;
                waiting++;
            }
        }
    }
}
