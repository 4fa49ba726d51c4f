import java.util.Map;
import java.util.function.Consumer;

/** The boundary cases of promises 22 to 27: what acts CUT, where they TRAP and SKIP, codes, STEPS and PC. */
public final class DoingEdgeTest {
    private static final Due DUE = new Due("DoingEdgeTest");
    private static final long MOST_CELL = 4294967295L;

    public static void main(String[] args) {
        for (Map.Entry<String, Consumer<StepStore>> state : States.all().entrySet()) {
            refusals(state.getKey(), state.getValue());
            runOfNoActs(state.getKey(), state.getValue());
        }
        runEnds();
        for (int width = 1; width <= 32; width++) {
            cutOnBuses(width);
            cutByWorker(width);
            cutByShifter(width);
            cutByPort(width);
        }
        shiftEnds();
        trapEnds();
        trapAtTheEndsOfARow();
        trapBehindTheMostWrites();
        skipAtTheEndsOfARow();
        flagsOfTests();
        toldEnds();
        toldOfFullRows();
        besideEnds();
        codeEnds();
        codesModulo16();
        noCode();
        stepEnds();
        pcAbove63();
        pcIsCut();
        pcAndTraps();
        stepOfNoActs();
        countEnds();
        countOfRefusedSteps();
        DUE.end();
    }

    private static long most(int width) {
        return (1L << width) - 1;
    }

    private static void refusals(String name, Consumer<StepStore> state) {
        DUE.promise(22);
        Twins.outside(DUE, name + ": run by words", state, 0, 11, -3, v -> x -> x.run(v, true));
        Twins.outside(DUE, name + ": run plain", state, 0, 11, -3, v -> x -> x.run(v, false));
        DUE.promise(23);
        Twins.outside(DUE, name + ": told", state, 0, 2, -6, v -> x -> x.told(v));
        DUE.promise(24);
        Twins.outside(DUE, name + ": beside", state, 0, 11, -3, v -> x -> x.beside(v));
        DUE.promise(25);
        Twins.outside(DUE, name + ": code", state, 0, 15, -3, v -> x -> x.code(v, 1));
        Twins.outside(DUE, name + ": code none", state, 0, 15, -3, v -> x -> x.code(v, -1));
        Twins.outside(DUE, name + ": code of", state, -1, 11, -3, v -> x -> x.code(0, v));
        Twins.outside(DUE, name + ": code, both beyond, once", state, -1, 15, -3, v -> x -> x.code(v == -2 ? -1 : v, v));
        DUE.promise(26);
        for (int n : new int[] {-1, -2, Integer.MIN_VALUE}) {
            Twins.refused(DUE, name + ": step(" + n + ")", state, x -> x.step(n), -4);
        }
        for (int n : new int[] {0, 1001, 1002, Integer.MAX_VALUE}) {
            Twins.refused(DUE, name + ": step(" + n + ")", state, x -> x.step(n), -6);
        }
        DUE.promise(27);
        Twins.outside(DUE, name + ": count", state, 0, 2, -6, v -> x -> x.count(v));
    }

    private static void runOfNoActs(String name, Consumer<StepStore> state) {
        for (boolean words : new boolean[] {false, true}) {
            DUE.promise(22);
            Twins.taken(DUE, name + ": run of no acts", state, x -> x.run(States.EMPTY, words), 0);
            StepStore x = new StepStore();
            state.accept(x);
            x.image();
            x.run(States.EMPTY, words);
            DUE.is(name + ": nothing is another by it", x.restore(), 0);
            DUE.promise(23);
            DUE.told(name + ": no acts", x, 0, 0, -1);
        }
        DUE.promise(24);
        Twins.taken(DUE, name + ": beside of no acts", state, x -> x.beside(States.EMPTY), 0);
    }

    private static void runEnds() {
        DUE.promise(22);
        for (int instruction : new int[] {0, 11}) {
            for (boolean words : new boolean[] {false, true}) {
                Consumer<StepStore> state = x -> x.act(instruction, 0, 0, 9, 0);
                Twins.taken(DUE, "run(" + instruction + ")", state, x -> x.run(instruction, words), 0);
                StepStore x = new StepStore();
                state.accept(x);
                x.run(instruction, words);
                DUE.is("it was done", x.register(0), 9);
            }
        }
    }

    /** One act on REGISTERS 1, 2 of 32 bits and 3 of a width, plain and by words: what 3 gets, and the FLAGS. */
    private static void gets(int width, int kind, long a, long b, int y, long want, int flags) {
        for (boolean words : new boolean[] {false, true}) {
            StepStore x = new StepStore();
            x.width(1, 32);
            x.width(2, 32);
            x.width(3, width);
            x.set(1, a);
            x.set(2, b);
            x.poke(40, a);
            x.set(4, 40);
            x.flag(0, flags < 0 || flags % 2 == 0);
            x.flag(1, flags < 2);
            x.act(0, kind, 3, kind == 0 ? (int) a : kind == 7 ? 4 : 1, kind == 6 ? y : 2);
            String what = "kind " + kind + " of " + a + ", " + b + ", " + y + (words ? " by words" : " plain") + ", width " + width;
            DUE.is(what, x.run(0, words), 0);
            DUE.is(what + ": register", x.register(3), want);
            DUE.is(what + ": flags", x.flags(), flags < 0 ? 3 : flags);
        }
    }

    /** Kinds that leave the FLAGS. */
    private static void gets(int width, int kind, long a, int y, long want) {
        gets(width, kind, a, 0, y, want, -1);
    }

    private static void cutOnBuses(int width) {
        DUE.promise(22);
        gets(width, 0, 255, 0, 255 & most(width));
        gets(width, 0, 0, 0, 0);
        gets(width, 1, MOST_CELL, 0, most(width));
        gets(width, 1, most(width), 0, most(width));
        if (width < 32) {
            gets(width, 1, 1L << width, 0, 0);
        }
    }

    private static void cutByWorker(int width) {
        long most = most(width);
        gets(width, 2, most, 0, 0, most, 0);
        gets(width, 2, most, 1, 0, 0, 3);
        gets(width, 2, 1, most, 0, 0, 3);
        gets(width, 2, most, 2, 0, 1, 2);
        gets(width, 2, 0, 0, 0, 0, 1);
        gets(width, 2, MOST_CELL, MOST_CELL, 0, most - 1, width == 1 ? 3 : 2);
        gets(width, 3, 0, 1, 0, most, 2);
        gets(width, 3, 0, most, 0, 1, 2);
        gets(width, 3, most, most, 0, 0, 1);
        gets(width, 3, most, 0, 0, most, 0);
        gets(width, 3, 0, MOST_CELL, 0, 1, 2);
        gets(width, 4, MOST_CELL, MOST_CELL, 0, most, 0);
        gets(width, 5, MOST_CELL, 0, 0, most, 0);
        gets(width, 5, MOST_CELL, MOST_CELL, 0, 0, 1);
        if (width < 32) {
            long beyond = 1L << width;
            gets(width, 2, beyond, 0, 0, 0, 3);
            gets(width, 3, beyond, 0, 0, 0, 1);
            gets(width, 3, 0, beyond, 0, 0, 3);
            gets(width, 4, beyond, beyond, 0, 0, 1);
            gets(width, 5, beyond, 0, 0, 0, 1);
        }
    }

    private static void cutByShifter(int width) {
        gets(width, 6, MOST_CELL, 0, most(width));
        gets(width, 6, 1, width - 1, 1L << (width - 1));
        gets(width, 6, MOST_CELL, -(width - 1), most(Math.min(width, 33 - width)));
        if (width < 32) {
            gets(width, 6, 1, width, 0);
            gets(width, 6, MOST_CELL, width, 0);
        }
    }

    private static void cutByPort(int width) {
        gets(width, 7, MOST_CELL, 0, most(width));
        gets(width, 7, most(width), 0, most(width));
        gets(width, 7, (1L << width) & MOST_CELL, 0, 0);
        for (boolean words : new boolean[] {false, true}) {
            StepStore x = new StepStore();
            x.width(3, width);
            x.set(3, -1);
            x.set(1, 63);
            x.poke(63, 5L << 29);
            x.act(0, 8, 0, 1, 3);
            x.run(0, words);
            DUE.is("STORE of all that width " + width + " has", x.cell(63), most(width));
        }
    }

    private static void shiftEnds() {
        gets(32, 6, 1, 31, 1L << 31);
        gets(32, 6, 1, 30, 1L << 30);
        gets(32, 6, 2, 31, 0);
        gets(32, 6, MOST_CELL, 31, 1L << 31);
        gets(32, 6, MOST_CELL, -31, 1);
        gets(32, 6, 1L << 31, -31, 1);
        gets(32, 6, most(31), -31, 0);
        gets(32, 6, most(31), -30, 1);
        gets(32, 6, MOST_CELL, 0, MOST_CELL);
        gets(32, 6, 1, -1, 0);
        gets(32, 6, 3, -1, 1);
        gets(1, 6, MOST_CELL, 31, 0);
        gets(1, 6, MOST_CELL, -31, 1);
    }

    /** FETCH and STORE at a number: 63 is the last cell, all above TRAPS. */
    private static void trapEnds() {
        long[] numbers = {0, 63, 64, 65, 127, 128, 65535, 65536, 1L << 31, MOST_CELL};
        for (int kind = 7; kind <= 8; kind++) {
            for (long number : numbers) {
                for (boolean words : new boolean[] {false, true}) {
                    StepStore x = new StepStore();
                    x.width(1, 32);
                    x.set(1, number);
                    x.set(2, 17);
                    x.act(0, kind, 2, 1, 2);
                    boolean traps = number > 63;
                    DUE.is("kind " + kind + " at " + number, x.run(0, words), traps ? 2 : 0);
                    DUE.is("the act that trapped", x.told(2), traps ? 0 : -1);
                    DUE.is("register 2", x.register(2), kind == 7 && !traps ? 0 : 17);
                    if (!traps) {
                        DUE.is("the cell", x.cell((int) number), kind == 8 ? 17 : 0);
                    }
                }
            }
        }
    }

    private static void trapAtTheEndsOfARow() {
        for (int at = 0; at < 10; at++) {
            for (boolean words : new boolean[] {false, true}) {
                StepStore x = new StepStore();
                x.flag(1, true);
                for (int i = 0; i < 10; i++) {
                    x.act(0, i == at ? 10 : i % 2 == 0 ? 0 : 8, 3, i == at ? 1 : 5, i == at ? 1 : 6);
                }
                x.set(6, 77);
                x.image();
                DUE.is("CHECK as act " + at, x.run(0, words), 2);
                DUE.is("all is as ahead of it", x.restore(), 0);
                DUE.is("told of it", x.told(2), at);
                if (!words) {
                    DUE.is("done, with it", x.told(0), at + 1);
                }
                DUE.is("both ways are alike", x.beside(0), 0);
            }
        }
    }

    /** Nine acts of the WORKER: each writes a REGISTER, some of them twice and more, and both FLAGS. */
    private static void trapBehindTheMostWrites() {
        for (boolean words : new boolean[] {false, true}) {
            for (int different = 1; different <= 8; different++) {
                StepStore x = new StepStore();
                for (int r = 0; r < 8; r++) {
                    x.set(r, 1000 + r);
                }
                x.flag(0, true);
                for (int i = 0; i < 9; i++) {
                    x.act(0, 2, i % different, i % different, 7 - i % different);
                }
                x.act(0, 10, 0, 0, 0);
                x.image();
                DUE.is("a TRAP behind nine acts that write", x.run(0, words), 2);
                DUE.is("all is as ahead of it", x.restore(), 0);
                DUE.is("told of it", x.told(2), 9);
            }
        }
    }

    private static void skipAtTheEndsOfARow() {
        for (int at = 0; at < 10; at++) {
            for (boolean words : new boolean[] {false, true}) {
                StepStore x = new StepStore();
                for (int i = 0; i < 10; i++) {
                    x.act(0, i == at ? 9 : 0, 3, i == at ? 0 : i + 1, 0);
                }
                DUE.is("SKIP as act " + at, x.run(0, words), 1);
                DUE.is("those before it are done", x.register(3), at);
                DUE.is("with it", x.told(0), at + 1);
                DUE.is("no trap", x.told(2), -1);
                x.flag(0, true);
                DUE.is("it does not hold", x.run(0, words), 0);
                DUE.is("all are done", x.register(3), at == 9 ? 9 : 10);
                DUE.is("all are told", x.told(0), 10);
            }
        }
    }

    private static void flagsOfTests() {
        for (int kind = 9; kind <= 10; kind++) {
            for (int flags = 0; flags < 4; flags++) {
                for (int test = 0; test < 4; test++) {
                    StepStore x = new StepStore();
                    x.flag(0, flags % 2 == 1);
                    x.flag(1, flags >= 2);
                    int flag = test % 2;
                    int is = test / 2;
                    x.act(0, kind, 0, flag, is);
                    int now = flag == 0 ? flags % 2 : flags / 2;
                    int want = now == is ? kind - 8 : 0;
                    String what = "kind " + kind + " of flag " + flag + " is " + is + ", flags " + flags;
                    DUE.is(what, x.run(0, false), want);
                    DUE.is(what, x.run(0, true), want);
                    DUE.is("the flags are as they were", x.flags(), flags);
                }
            }
        }
    }

    private static void toldEnds() {
        DUE.promise(23);
        int[] ahead = {0, 0, -1};
        for (int what = 0; what < 3; what++) {
            int w = what;
            Twins.taken(DUE, "ahead of any: told(" + w + ")", States::nothing, x -> x.told(w), ahead[w]);
            Twins.taken(DUE, "ahead of any, with rows: told(" + w + ")", States::rows, x -> x.told(w), ahead[w]);
        }
        StepStore x = new StepStore();
        x.act(0, 10, 0, 0, 0);
        x.run(0, true);
        DUE.told("a TRAP", x, 1, 1, 0);
        x.beside(1);
        x.run(12, false);
        x.run(-1, true);
        x.step(1);
        x.step(-1);
        DUE.told("neither beside, refused runs, nor step() without a STEP", x, 1, 1, 0);
        x.code(0, 1);
        x.step(1);
        DUE.told("a STEP of no acts", x, 0, 0, -1);
    }

    private static void toldOfFullRows() {
        StepStore x = new StepStore();
        for (int i = 0; i < 10; i++) {
            x.act(0, 0, 0, i, 0);
        }
        x.run(0, false);
        DUE.told("ten, plain", x, 10, 0, -1);
        x.run(0, true);
        DUE.told("ten words", x, 10, 10, -1);
        x.act(1, 0, 1, 0, 0);
        x.act(1, 6, 2, 3, 0);
        x.act(1, 7, 4, 5, 0);
        x.act(1, 0, 6, 0, 0);
        x.set(5, 64);
        x.run(1, true);
        DUE.told("of WORD 0, which TRAPPED: 0 and 2, for 1 waits", x, 2, 1, 2);
        x.run(1, false);
        DUE.told("plain: 0, 1 and 2", x, 3, 0, 2);
        x.set(5, 63);
        x.run(1, true);
        DUE.told("one cell less: all", x, 4, 2, -1);
    }

    private static void besideEnds() {
        DUE.promise(24);
        for (int instruction : new int[] {0, 11}) {
            Twins.taken(DUE, "beside(" + instruction + ")", States::whole, x -> x.beside(instruction), 0);
        }
        for (int how = 0; how < 3; how++) {
            StepStore x = new StepStore();
            x.act(0, 0, 1, 9, 0);
            x.act(0, 2, 2, 1, 1);
            x.act(0, 8, 0, 3, 2);
            if (how > 0) {
                x.act(0, how == 1 ? 9 : 10, 0, 0, 0);
            }
            x.act(0, 0, 4, 8, 0);
            x.image();
            DUE.is("both end alike", x.beside(0), 0);
            DUE.is("nothing is another", x.restore(), 0);
            DUE.told("nothing is told", x, 0, 0, -1);
            DUE.is("it is not packed", x.word(0, 0), -2);
            DUE.is("no STEP", x.count(0) + x.count(1) + x.count(2), 0);
            DUE.is("it ends so indeed", x.run(0, false), how);
        }
    }

    private static void codeEnds() {
        DUE.promise(25);
        for (int code : new int[] {0, 15}) {
            for (int instruction : new int[] {-1, 0, 11}) {
                Twins.taken(DUE, "code(" + code + ", " + instruction + ")", States::nothing, x -> x.code(code, instruction), -1);
                StepStore x = new StepStore();
                x.code(code, instruction);
                DUE.is("it was " + instruction, x.code(code, 5), instruction);
                DUE.is("then 5", x.code(code, -1), 5);
                DUE.is("then none", x.code(code, -1), -1);
                DUE.is("the other end had none", x.code(15 - code, 0), -1);
            }
        }
    }

    private static void codesModulo16() {
        DUE.promise(26);
        for (int code = 0; code < 16; code++) {
            long[] cells = {code, code + 16, code + 240, (1L << 31) + code, MOST_CELL - 15 + code};
            for (long cell : cells) {
                StepStore x = new StepStore();
                x.act(4, 0, 1, 1 + code, 0);
                x.code(code, 4);
                x.poke(0, cell);
                DUE.is("code " + code + " of cell " + cell, x.step(1), 1);
                DUE.is("it was done", x.register(1), 1 + code);
            }
        }
    }

    private static void noCode() {
        for (int code = 0; code < 16; code++) {
            StepStore x = new StepStore();
            for (int other = 0; other < 16; other++) {
                x.code(other, other == code ? -1 : 0);
            }
            x.act(0, 0, 1, 9, 0);
            x.poke(0, code);
            DUE.is("code " + code + " is none", x.step(9), 0);
            DUE.is("PC stays", x.register(7), 0);
            DUE.is("nothing is done", x.register(1), 0);
            DUE.is("it ended so", x.count(2), 2);
            DUE.is("no STEP", x.count(0), 0);
        }
        StepStore x = new StepStore();
        x.act(0, 0, 1, 9, 0);
        x.code(5, 0);
        x.poke(0, 5);
        x.poke(1, 5);
        DUE.is("two STEPS, then none", x.step(1000), 2);
        DUE.is("it ended there", x.register(7), 2);
        DUE.is("it ended so", x.count(2), 2);
        x.code(5, -1);
        x.set(7, 0);
        DUE.is("a code taken away", x.step(1), 0);
    }

    private static void stepEnds() {
        Consumer<StepStore> loop = x -> {
            x.act(0, 0, 7, 0, 0);
            x.code(0, 0);
        };
        Twins.taken(DUE, "step(1)", loop, x -> x.step(1), 1);
        Twins.taken(DUE, "step(1000)", loop, x -> x.step(1000), 1000);
        Twins.taken(DUE, "step(999)", loop, x -> x.step(999), 999);
        Twins.taken(DUE, "step(1000) that ends at once", States::nothing, x -> x.step(1000), 0);
        Twins.taken(DUE, "step(1) that ends at once", States::nothing, x -> x.step(1), 0);
    }

    private static void pcAbove63() {
        for (long pc : new long[] {63, 64, 65, 127, 128, 65535, 65536, 1L << 31, MOST_CELL}) {
            StepStore x = new StepStore();
            x.width(7, 32);
            x.set(7, pc);
            x.code(0, 0);
            x.code(2, 0);
            x.poke(63, 2);
            DUE.is("PC " + pc, x.step(3), pc == 63 ? 1 : 0);
            DUE.is("it ended there", x.register(7), pc == 63 ? 64 : pc);
            DUE.is("it ended so", x.count(2), 1);
            DUE.is("STEPS in all", x.count(0), pc == 63 ? 1 : 0);
        }
        StepStore x = new StepStore();
        x.set(7, 64);
        DUE.is("above 63 and no code: the first of both", x.step(1) + 10 * x.count(2), 10);
    }

    /** "PC gets 1 more, CUT": what PC is behind one STEP from its greatest number, for each width. */
    private static void pcIsCut() {
        for (int width = 1; width <= 32; width++) {
            StepStore x = new StepStore();
            x.width(7, width);
            x.code(0, 0);
            x.set(7, most(width));
            boolean within = width <= 6;
            DUE.is("from the most of width " + width, x.step(1), within ? 1 : 0);
            DUE.is("PC", x.register(7), within ? 0 : most(width));
            DUE.is("it ended", x.count(2), within ? 0 : 1);
        }
        StepStore x = new StepStore();
        x.width(7, 6);
        x.code(0, 0);
        DUE.is("round and round with 6 bits", x.step(1000), 1000);
        DUE.is("PC is 1000 modulo 64", x.register(7), 1000 % 64);
        x.width(7, 7);
        x.set(7, 0);
        DUE.is("with 7 bits it ends behind the last cell", x.step(1000), 64);
        DUE.is("PC", x.register(7), 64);
    }

    private static void pcAndTraps() {
        StepStore x = new StepStore();
        x.width(7, 6);
        x.act(0, 0, 7, 20, 0);
        x.act(0, 10, 0, 0, 0);
        x.code(0, 0);
        x.set(7, 63);
        DUE.is("a STEP that TRAPS is a STEP", x.step(1), 1);
        DUE.is("PC is 1 more, CUT, all the same", x.register(7), 0);
        DUE.is("it goes on", x.step(5), 5);
        DUE.is("PC", x.register(7), 5);
        DUE.is("TRAPS", x.count(1), 6);
        DUE.is("STEPS", x.count(0), 6);
        DUE.is("all were done", x.count(2), 0);
        x.flag(0, true);
        DUE.is("it does not TRAP", x.step(1), 1);
        DUE.is("PC is what it got", x.register(7), 20);
        x.act(1, 1, 1, 7, 0);
        x.code(3, 1);
        x.poke(20, 3);
        x.step(1);
        DUE.is("the INSTRUCTION reads PC with 1 more", x.register(1), 21);
        x.act(2, 2, 2, 7, 7);
        x.code(4, 2);
        x.poke(63, 4);
        x.set(7, 63);
        x.step(1);
        DUE.is("the INSTRUCTION reads PC that was CUT", x.register(2), 0);
    }

    private static void stepOfNoActs() {
        StepStore x = new StepStore();
        x.code(0, 11);
        DUE.is("a STEP of no acts is one", x.step(3), 3);
        DUE.is("PC", x.register(7), 3);
        DUE.is("no TRAP", x.count(1), 0);
        DUE.told("a STEP of no acts", x, 0, 0, -1);
        StepStore y = new StepStore();
        y.act(0, 9, 0, 0, 0);
        y.act(0, 0, 1, 1, 0);
        y.code(0, 0);
        DUE.is("a STEP that SKIPS goes on", y.step(4), 4);
        DUE.is("no TRAP", y.count(1), 0);
        DUE.told("a STEP that SKIPS", y, 1, 1, -1);
    }

    private static void countEnds() {
        DUE.promise(27);
        for (int what = 0; what < 3; what++) {
            int w = what;
            Twins.taken(DUE, "ahead of any: count(" + w + ")", States::nothing, x -> x.count(w), 0);
        }
        StepStore x = new StepStore();
        x.act(0, 0, 7, 0, 0);
        x.code(0, 0);
        for (int i = 1; i <= 400; i++) {
            x.step(1000);
        }
        DUE.is("many STEPS in all", x.count(0), 400000);
        x.code(0, -1);
        x.step(1);
        DUE.is("none more", x.count(0), 400000);
        DUE.is("ended by no code", x.count(2), 2);
    }

    private static void countOfRefusedSteps() {
        int[] ended = {0, 1, 2};
        for (int end : ended) {
            StepStore x = new StepStore();
            x.code(0, 0);
            x.set(7, end == 1 ? 63 : 5);
            x.poke(6, 9);
            DUE.is("step(" + (end == 0 ? 1 : 2) + ")", x.step(end == 0 ? 1 : 2), 1);
            for (int n : new int[] {-1, 0, 1001, Integer.MIN_VALUE, Integer.MAX_VALUE}) {
                x.step(n);
                DUE.is("count(0) behind step(" + n + ")", x.count(0), 1);
                DUE.is("count(2) behind step(" + n + ")", x.count(2), end);
            }
            DUE.is("BELOW", x.status(-4), 2);
            DUE.is("NO", x.status(-6), 3);
        }
    }
}
