import java.util.Random;

/** Random runs of calls: StepStore and PlainModel answer alike, and nothing is ever thrown. */
public final class ModelTest {
    private static final Due DUE = new Due("ModelTest");
    private static final int RUNS = 2500;
    private static final int CALLS = 420;
    private static final int[] WILD = {-1, -2, -7, 0, 7, 8, 11, 12, 16, 63, 64, 65, 256, 1000, 1001,
        Integer.MIN_VALUE, Integer.MIN_VALUE + 1, Integer.MAX_VALUE, Integer.MAX_VALUE - 1};

    private final Random random;
    private final int wildness;
    private final int instructions;
    private final int[] weights;
    private final StepStore store = new StepStore();
    private final PlainModel model = new PlainModel();

    private ModelTest(long seed) {
        random = new Random(seed);
        wildness = new int[] {0, 5, 30}[random.nextInt(3)];
        instructions = 1 + random.nextInt(12);
        weights = new int[34];
        int actWeight = new int[] {2, 10, 40}[random.nextInt(3)];
        for (int i = 0; i < weights.length; i++) {
            weights[i] = 1 + random.nextInt(3);
        }
        weights[9] = actWeight;
        weights[10] = random.nextInt(2);
        weights[12] = random.nextInt(2);
    }

    public static void main(String[] args) {
        for (int run = 0; run < RUNS && DUE.isClean(); run++) {
            new ModelTest(run).run(run);
        }
        DUE.end();
    }

    private void run(int run) {
        for (int call = 0; call < CALLS && DUE.isClean(); call++) {
            int which = pick();
            DUE.promise(which);
            one(which, "run " + run + ", call " + call + ": ");
        }
        compareAll("run " + run + ", at its end: ");
    }

    private void compareAll(String where) {
        DUE.promise(22);
        for (int r = 0; r < 8; r++) {
            DUE.is(where + "register " + r, store.register(r), model.register(r));
        }
        DUE.is(where + "flags", store.flags(), model.flags());
        for (int c = 0; c < 64; c++) {
            DUE.is(where + "cell " + c, store.cell(c), model.cell(c));
        }
        DUE.promise(34);
        for (int by = -7; by <= -2; by++) {
            DUE.is(where + "status " + by, store.status(by), model.status(by));
        }
    }

    private int pick() {
        int sum = 0;
        for (int i = 2; i < weights.length; i++) {
            sum += weights[i];
        }
        int at = random.nextInt(sum);
        int which = 2;
        while (at >= weights[which]) {
            at -= weights[which];
            which++;
        }
        return random.nextInt(34) == 0 ? 34 : which;
    }

    /** A number from .. to - 1, or a wild one. */
    private int some(int from, int to) {
        if (random.nextInt(100) < wildness) {
            return random.nextBoolean() ? WILD[random.nextInt(WILD.length)] : from - 1 + random.nextInt(to - from + 3);
        }
        return from + random.nextInt(to - from);
    }

    private int instruction() {
        return some(0, instructions);
    }

    private long number() {
        return switch (random.nextInt(6)) {
            case 0 -> random.nextLong();
            case 1 -> random.nextInt(64);
            case 2 -> random.nextInt(16);
            case 3 -> 65536L - random.nextInt(3);
            case 4 -> (1L << 32) - random.nextInt(3);
            default -> random.nextInt(3);
        };
    }

    private void one(int which, String where) {
        if (which <= 8) {
            inside(which, where);
        } else if (which <= 13) {
            rows(which, where);
        } else if (which <= 21) {
            words(which, where);
        } else if (which <= 29) {
            doing(which, where);
        } else {
            line(which, where);
        }
    }

    private void inside(int which, String where) {
        int r = some(0, 8);
        int c = some(0, 64);
        long v = number();
        boolean is = random.nextBoolean();
        int w = some(1, 33);
        int f = some(0, 2);
        switch (which) {
            case 2 -> DUE.is(where + "width(" + r + ", " + w + ")", store.width(r, w), model.width(r, w));
            case 3 -> DUE.is(where + "set(" + r + ", " + v + ")", store.set(r, v), model.set(r, v));
            case 4 -> DUE.is(where + "register(" + r + ")", store.register(r), model.register(r));
            case 5 -> DUE.is(where + "poke(" + c + ", " + v + ")", store.poke(c, v), model.poke(c, v));
            case 6 -> DUE.is(where + "cell(" + c + ")", store.cell(c), model.cell(c));
            case 7 -> DUE.is(where + "flag(" + f + ", " + is + ")", store.flag(f, is), model.flag(f, is));
            default -> DUE.is(where + "flags()", store.flags(), model.flags());
        }
    }

    private void rows(int which, String where) {
        int instruction = instruction();
        int i = some(0, 10);
        int j = some(0, 10);
        int what = some(0, 6);
        int n = some(1, 4);
        switch (which) {
            case 9 -> act(instruction, where);
            case 10 -> DUE.is(where + "clear(" + instruction + ")", store.clear(instruction), model.clear(instruction));
            case 11 -> DUE.is(where + "look", store.look(instruction, i, what), model.look(instruction, i, what));
            case 12 -> DUE.is(where + "buses(" + n + ")", store.buses(n), model.buses(n));
            default -> DUE.is(where + "needs", store.needs(instruction, i, j), model.needs(instruction, i, j));
        }
    }

    private void act(int instruction, String where) {
        int kind = some(0, 11);
        int d = some(0, 8);
        int x = kind == 0 ? some(0, 256) : kind >= 9 ? some(0, 2) : some(0, 8);
        int y = kind == 6 ? some(-31, 32) : kind >= 9 ? some(0, 2) : some(0, 8);
        if (random.nextInt(3) == 0) {
            // Few different acts, so that ends of rows are shared.
            kind = random.nextInt(3) * 3;
            d = random.nextInt(2);
            x = 3;
            y = 3;
        }
        DUE.is(where + "act(" + instruction + ", " + kind + ", " + d + ", " + x + ", " + y + ")",
                store.act(instruction, kind, d, x, y), model.act(instruction, kind, d, x, y));
    }

    private void words(int which, String where) {
        int instruction = instruction();
        int i = some(0, 10);
        int place = some(0, 30);
        int what = some(0, 4);
        int field = some(0, 7);
        switch (which) {
            case 14 -> DUE.is(where + "pack(" + instruction + ")", store.pack(instruction), model.pack(instruction));
            case 15 -> DUE.is(where + "word", store.word(instruction, i), model.word(instruction, i));
            case 16 -> DUE.is(where + "why", store.why(instruction, i), model.why(instruction, i));
            case 17 -> DUE.is(where + "store()", store.store(), model.store());
            case 18 -> DUE.is(where + "place", store.place(instruction, i), model.place(instruction, i));
            case 19 -> DUE.is(where + "at(" + place + ", " + what + ")", store.at(place, what), model.at(place, what));
            case 20 -> DUE.is(where + "group(" + field + ")", store.group(field), model.group(field));
            default -> DUE.is(where + "narrow(" + what + ")", store.narrow(what), model.narrow(what));
        }
    }

    private void doing(int which, String where) {
        int instruction = instruction();
        boolean words = random.nextBoolean();
        int what = some(0, 3);
        int code = some(0, 16);
        int n = random.nextInt(4) == 0 ? some(1, 100) : some(1, 8);
        switch (which) {
            case 22 -> DUE.is(where + "run(" + instruction + ", " + words + ")",
                    store.run(instruction, words), model.run(instruction, words));
            case 23 -> DUE.is(where + "told(" + what + ")", store.told(what), model.told(what));
            case 24 -> DUE.is(where + "beside(" + instruction + ")", store.beside(instruction), model.beside(instruction));
            case 25 -> DUE.is(where + "code", store.code(code, instruction), model.code(code, instruction));
            case 26 -> DUE.is(where + "step(" + n + ")", store.step(n), model.step(n));
            case 27 -> DUE.is(where + "count(" + what + ")", store.count(what), model.count(what));
            case 28 -> DUE.is(where + "image()", store.image(), model.image());
            default -> DUE.is(where + "restore()", store.restore(), model.restore());
        }
    }

    private void line(int which, String where) {
        int from = some(0, 64);
        int n = random.nextInt(3) == 0 ? some(-2, 66) : some(0, 12);
        int i = some(0, 12);
        int j = some(0, 12);
        int by = some(-7, -1);
        switch (which) {
            case 30 -> DUE.is(where + "lay(" + from + ", " + n + ")", store.lay(from, n), model.lay(from, n));
            case 31 -> {
                if (random.nextInt(4) == 0) {
                    DUE.is(where + "tear()", store.tear(), model.tear());
                }
            }
            case 32 -> DUE.is(where + "row(" + i + ")", store.row(i), model.row(i));
            case 33 -> DUE.is(where + "copy(" + i + ", " + j + ", " + n + ")", store.copy(i, j, n), model.copy(i, j, n));
            default -> DUE.is(where + "status(" + by + ")", store.status(by), model.status(by));
        }
    }
}
