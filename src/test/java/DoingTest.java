/** Promises 22 to 29: instructions done both ways, what is told of them, THE MACHINE, images. */
public final class DoingTest {
    private static final Due DUE = new Due("DoingTest");

    public static void main(String[] args) {
        kinds();
        workersFlags();
        shifts();
        cellsAndTraps();
        skips();
        runRefused();
        told();
        beside();
        code();
        step();
        stepPc();
        count();
        image();
        restore();
        DUE.end();
    }

    /** The same row plainly and by words: how it ends, then a register. */
    private static void bothWays(String what, StepStore x, int instruction, int how, int register, long want) {
        x.image();
        DUE.is(what + ": beside", x.beside(instruction), 0);
        DUE.is(what + ", plain", x.run(instruction, false), how);
        DUE.is(what + ", plain: register " + register, x.register(register), want);
        x.restore();
        DUE.is(what + ", words", x.run(instruction, true), how);
        DUE.is(what + ", words: register " + register, x.register(register), want);
    }

    private static void kinds() {
        DUE.promise(22);
        StepStore x = new StepStore();
        x.set(1, 0xF0F0);
        x.set(2, 0x1234);
        x.act(0, 0, 3, 255, 0);
        bothWays("SET", x, 0, 0, 3, 255);
        x.act(1, 1, 4, 1, 0);
        bothWays("MOVE", x, 1, 0, 4, 0xF0F0);
        x.act(2, 2, 4, 1, 2);
        bothWays("ADD", x, 2, 0, 4, 0x0324);
        x.act(3, 3, 4, 2, 1);
        bothWays("LESS", x, 3, 0, 4, 0x2144);
        x.act(4, 4, 4, 2, 1);
        bothWays("BOTH", x, 4, 0, 4, 0x1030);
        x.act(5, 5, 4, 2, 1);
        bothWays("UNLIKE", x, 5, 0, 4, 0xE2C4);
        x.width(5, 4);
        x.act(6, 0, 5, 255, 0);
        bothWays("SET, cut", x, 6, 0, 5, 15);
        x.act(7, 1, 5, 2, 0);
        bothWays("MOVE, cut", x, 7, 0, 5, 4);
        bothWays("no acts", x, 9, 0, 5, 4);
        x.act(8, 1, 1, 2, 0);
        x.act(8, 6, 2, 1, 0);
        bothWays("what was there ahead of the word", x, 8, 0, 2, 0x1234);
    }

    private static void flagsOf(int kind, int width, long a, long b, int want) {
        StepStore x = new StepStore();
        x.width(1, 32);
        x.width(2, 32);
        x.width(3, width);
        x.set(1, a);
        x.set(2, b);
        x.flag(0, want % 2 == 0);
        x.flag(1, want < 2);
        x.act(0, kind, 3, 1, 2);
        x.image();
        x.run(0, false);
        DUE.is("flags of " + kind + ": " + a + ", " + b + " for " + width, x.flags(), want);
        x.restore();
        x.run(0, true);
        DUE.is("flags by words of " + kind + ": " + a + ", " + b + " for " + width, x.flags(), want);
    }

    private static void workersFlags() {
        long most = 4294967295L;
        flagsOf(2, 8, 200, 55, 0);
        flagsOf(2, 8, 200, 56, 3);
        flagsOf(2, 8, 200, 57, 2);
        flagsOf(2, 8, 0, 0, 1);
        flagsOf(2, 32, most, 0, 0);
        flagsOf(2, 32, most, 1, 3);
        flagsOf(2, 32, most, most, 2);
        flagsOf(2, 1, 1, 0, 0);
        flagsOf(3, 8, 5, 5, 1);
        flagsOf(3, 8, 5, 6, 2);
        flagsOf(3, 8, 6, 5, 0);
        flagsOf(3, 8, 256, 0, 1);
        flagsOf(3, 8, 0, 256, 3);
        flagsOf(3, 32, 0, most, 2);
        flagsOf(4, 8, 0xF0, 0x0F, 1);
        flagsOf(4, 8, 0x1F0, 0x110, 0);
        flagsOf(4, 8, 0x100, 0x100, 1);
        flagsOf(5, 8, 0xFF, 0xFF, 1);
        flagsOf(5, 8, 0x1FF, 0xFF, 1);
        flagsOf(5, 8, 0xFE, 0xFF, 0);
        StepStore x = new StepStore();
        x.flag(0, true);
        x.flag(1, true);
        x.act(0, 0, 1, 5, 0);
        x.act(0, 6, 1, 1, 1);
        x.act(0, 1, 1, 2, 0);
        x.run(0, true);
        DUE.is("others leave the flags", x.flags(), 3);
    }

    private static void shift(long v, int y, int width, long want) {
        StepStore x = new StepStore();
        x.width(1, 32);
        x.width(2, width);
        x.set(1, v);
        x.act(0, 6, 2, 1, y);
        bothWays("SHIFT " + v + " by " + y, x, 0, 0, 2, want);
    }

    private static void shifts() {
        shift(5, 0, 16, 5);
        shift(5, 3, 16, 40);
        shift(45, -3, 16, 5);
        shift(4294967295L, 31, 32, 0x80000000L);
        shift(4294967295L, -31, 32, 1);
        shift(4294967295L, 4, 16, 0xFFF0);
        shift(4294967295L, -20, 8, 255);
        shift(1, -1, 8, 0);
    }

    private static void cellsAndTraps() {
        StepStore x = new StepStore();
        x.width(6, 32);
        x.poke(63, 0xABCDE);
        x.set(1, 63);
        x.set(2, 64);
        x.act(0, 7, 3, 1, 0);
        bothWays("FETCH, cut", x, 0, 0, 3, 0xBCDE);
        x.act(1, 7, 3, 2, 0);
        bothWays("FETCH at 64", x, 1, 2, 3, 0xBCDE);
        x.act(2, 8, 99, 1, 3);
        x.act(2, 7, 6, 1, 0);
        bothWays("STORE, then FETCH", x, 2, 0, 6, 0xBCDE);
        DUE.is("the cell", x.cell(63), 0xBCDE);
        x.act(3, 0, 4, 9, 0);
        x.act(3, 2, 5, 4, 1);
        x.act(3, 8, 0, 1, 5);
        x.act(3, 8, 0, 2, 5);
        x.act(3, 0, 4, 8, 0);
        x.flag(1, true);
        bothWays("STORE at 64 goes back whole", x, 3, 2, 4, 0);
        DUE.is("the worker's too", x.register(5), 0);
        DUE.is("the flags too", x.flags(), 2);
        DUE.is("the cells too", x.cell(63), 0xBCDE);
        x.act(4, 0, 4, 9, 0);
        x.act(4, 10, 0, 1, 1);
        bothWays("CHECK that traps", x, 4, 2, 4, 0);
        x.flag(1, false);
        bothWays("CHECK that does not", x, 4, 0, 4, 9);
        x.set(2, 65535);
        x.act(5, 0, 4, 1, 0);
        x.act(5, 0, 4, 2, 0);
        x.act(5, 7, 4, 2, 0);
        bothWays("a register that was written twice", x, 5, 2, 4, 9);
    }

    private static void skips() {
        StepStore x = new StepStore();
        x.set(2, 64);
        x.act(0, 0, 3, 1, 0);
        x.act(0, 9, 0, 0, 1);
        x.act(0, 0, 3, 2, 0);
        x.act(0, 7, 3, 2, 0);
        x.flag(0, true);
        bothWays("a SKIP that holds", x, 0, 1, 3, 1);
        x.flag(0, false);
        bothWays("a SKIP that does not", x, 0, 2, 3, 1);
        x.act(1, 9, 0, 1, 0);
        bothWays("a SKIP alone", x, 1, 1, 3, 1);
        x.flag(1, true);
        bothWays("a SKIP by TOP that does not hold", x, 1, 0, 3, 1);
        x.flag(1, false);
        x.act(2, 7, 3, 2, 0);
        x.act(2, 9, 0, 0, 0);
        bothWays("a TRAP beside a SKIP that holds", x, 2, 2, 3, 1);
        DUE.is("of one word", x.pack(2), 1);
        x.act(3, 9, 0, 0, 1);
        x.act(3, 0, 3, 7, 0);
        x.act(3, 9, 0, 0, 0);
        x.act(3, 0, 3, 8, 0);
        bothWays("the second of two SKIPS", x, 3, 1, 3, 7);
    }

    private static void runRefused() {
        StepStore x = new StepStore();
        DUE.is("run(12, true)", x.run(12, true), -3);
        DUE.is("run(-1, false)", x.run(-1, false), -3);
        DUE.is("status -3", x.status(-3), 2);
    }

    private static void told() {
        DUE.promise(23);
        StepStore x = new StepStore();
        DUE.told("ahead of any", x, 0, 0, -1);
        x.set(2, 64);
        x.act(0, 0, 3, 1, 0);
        x.act(0, 6, 5, 6, 0);
        x.act(0, 9, 0, 0, 0);
        x.act(0, 0, 4, 2, 0);
        x.run(0, false);
        DUE.told("a SKIP, plain", x, 3, 0, -1);
        x.run(0, true);
        DUE.told("a SKIP, by words", x, 3, 1, -1);
        x.flag(0, true);
        x.run(0, true);
        DUE.told("all, by words", x, 4, 2, -1);
        x.run(0, false);
        DUE.told("all, plain", x, 4, 0, -1);
        x.act(1, 0, 3, 1, 0);
        x.act(1, 7, 5, 2, 0);
        x.act(1, 9, 0, 0, 0);
        x.act(1, 0, 3, 1, 0);
        x.run(1, false);
        DUE.told("a TRAP, plain", x, 2, 0, 1);
        x.run(1, true);
        DUE.told("a TRAP, by words: all of its word", x, 3, 1, 1);
        x.beside(0);
        x.run(12, true);
        x.step(0);
        DUE.told("beside and refused calls tell nothing", x, 3, 1, 1);
        x.step(3);
        DUE.told("no step was done", x, 3, 1, 1);
        x.code(0, 0);
        x.step(1);
        DUE.told("a step", x, 4, 2, -1);
        x.run(5, true);
        DUE.told("no acts", x, 0, 0, -1);
        DUE.is("told(3)", x.told(3), -6);
        DUE.is("told(-1)", x.told(-1), -6);
        DUE.is("status -6", x.status(-6), 3);
    }

    private static void beside() {
        DUE.promise(24);
        StepStore x = new StepStore();
        x.act(0, 0, 3, 1, 0);
        x.act(0, 2, 3, 3, 3);
        x.act(0, 8, 0, 4, 3);
        DUE.is("beside(0)", x.beside(0), 0);
        DUE.is("no register changes", x.register(3), 0);
        DUE.is("no cell changes", x.cell(0), 0);
        DUE.is("no flag changes", x.flags(), 0);
        DUE.is("it is not packed by it", x.word(0, 0), -2);
        x.pack(0);
        DUE.is("beside(0)", x.beside(0), 0);
        DUE.is("it stays packed", x.word(0, 0), 0);
        x.set(4, 64);
        DUE.is("with a trap", x.beside(0), 0);
        DUE.is("no register changes", x.register(3), 0);
        DUE.is("of no acts", x.beside(11), 0);
        DUE.is("beside(12)", x.beside(12), -3);
        DUE.is("beside(-1)", x.beside(-1), -3);
        DUE.is("status -3", x.status(-3), 2);
    }

    private static void code() {
        DUE.promise(25);
        StepStore x = new StepStore();
        DUE.is("code(0, 11)", x.code(0, 11), -1);
        DUE.is("code(0, 0)", x.code(0, 0), 11);
        DUE.is("code(15, 3)", x.code(15, 3), -1);
        DUE.is("code(16, 0)", x.code(16, 0), -3);
        DUE.is("code(-1, 0)", x.code(-1, 0), -3);
        DUE.is("code(0, 12)", x.code(0, 12), -3);
        DUE.is("code(0, -2)", x.code(0, -2), -3);
        DUE.is("code(0, -1)", x.code(0, -1), 0);
        DUE.is("code(0, -1)", x.code(0, -1), -1);
        DUE.is("code(15, 1)", x.code(15, 1), 3);
        DUE.is("status -3", x.status(-3), 4);
    }

    private static void step() {
        DUE.promise(26);
        StepStore x = new StepStore();
        x.act(0, 0, 1, 1, 0);
        x.act(0, 2, 2, 2, 1);
        x.code(5, 0);
        x.act(1, 0, 7, 0, 0);
        x.code(9, 1);
        x.poke(0, 16 * 7 + 5);
        x.poke(1, 4294967280L + 5);
        x.poke(2, 9);
        DUE.is("step(2)", x.step(2), 2);
        DUE.is("PC", x.register(7), 2);
        DUE.is("both were done", x.register(2), 2);
        DUE.is("by words, so it is packed", x.word(0, 1), 1);
        DUE.is("step(1000)", x.step(1000), 1000);
        DUE.is("round and round", x.register(2), 668);
        DUE.is("step(-1)", x.step(-1), -4);
        DUE.is("step(min)", x.step(Integer.MIN_VALUE), -4);
        DUE.is("step(0)", x.step(0), -6);
        DUE.is("step(1001)", x.step(1001), -6);
        DUE.is("refused calls do none", x.register(7), 0);
        DUE.is("status -4", x.status(-4), 2);
        DUE.is("status -6", x.status(-6), 2);
        x.code(9, -1);
        DUE.is("till it ends", x.step(10), 2);
        DUE.is("there", x.register(7), 2);
    }

    private static void stepPc() {
        StepStore x = new StepStore();
        x.act(1, 2, 2, 2, 7);
        x.code(0, 1);
        x.set(7, 63);
        DUE.is("the last cell", x.step(5), 1);
        DUE.is("PC", x.register(7), 64);
        DUE.is("PC is 1 more ahead of the instruction", x.register(2), 64);
        DUE.is("beyond", x.count(2), 1);
        x.width(7, 6);
        x.set(7, 63);
        DUE.is("PC is cut", x.step(2), 2);
        DUE.is("PC", x.register(7), 1);
        x.act(2, 0, 7, 40, 0);
        x.act(2, 0, 3, 200, 0);
        x.act(2, 7, 3, 3, 0);
        x.code(1, 2);
        x.poke(1, 1);
        DUE.is("a trap is a step", x.step(1), 1);
        DUE.is("PC is 1 more all the same", x.register(7), 2);
        DUE.is("all else went back", x.register(3), 0);
        DUE.is("it trapped", x.count(1), 1);
    }

    private static void count() {
        DUE.promise(27);
        StepStore x = new StepStore();
        x.act(0, 10, 0, 0, 0);
        x.code(1, 0);
        x.code(2, 1);
        x.poke(0, 1);
        x.poke(1, 2);
        x.poke(2, 1);
        DUE.is("step(3)", x.step(3), 3);
        DUE.is("count(0)", x.count(0), 3);
        DUE.is("count(1)", x.count(1), 2);
        DUE.is("count(2)", x.count(2), 0);
        DUE.is("step(2)", x.step(2), 0);
        DUE.is("no code", x.count(2), 2);
        x.step(0);
        x.step(-1);
        DUE.is("refused calls end nothing", x.count(2), 2);
        x.set(7, 64);
        x.step(1);
        DUE.is("PC beyond", x.count(2), 1);
        x.set(7, 1);
        x.step(1);
        DUE.is("all were done", x.count(2), 0);
        DUE.is("in all", x.count(0), 4);
        x.run(0, true);
        DUE.is("run is no step", x.count(0) + x.count(1), 6);
        DUE.is("count(3)", x.count(3), -6);
        DUE.is("count(-1)", x.count(-1), -6);
        DUE.is("status -6", x.status(-6), 3);
    }

    private static void image() {
        DUE.promise(28);
        StepStore x = new StepStore();
        DUE.is("all are 0", x.image(), 0);
        x.set(0, 5);
        x.set(7, 5);
        x.flag(1, true);
        x.poke(0, 1);
        x.poke(63, 1);
        DUE.is("five aren't", x.image(), 5);
        x.flag(0, true);
        DUE.is("six aren't", x.image(), 6);
        x.set(0, 0);
        x.poke(0, 0);
        x.flag(1, false);
        DUE.is("the latest is kept", x.restore(), 3);
    }

    private static void restore() {
        DUE.promise(29);
        StepStore x = new StepStore();
        DUE.is("no image", x.restore(), -2);
        x.set(1, 0x1234);
        x.poke(5, 77);
        x.flag(0, true);
        x.image();
        DUE.is("nothing changed", x.restore(), 0);
        x.set(1, 1);
        x.set(2, 2);
        x.poke(5, 0);
        x.poke(63, 8);
        x.flag(0, false);
        x.flag(1, true);
        DUE.is("six are others", x.restore(), 6);
        DUE.is("register 1", x.register(1), 0x1234);
        DUE.is("register 2", x.register(2), 0);
        DUE.is("cell 5", x.cell(5), 77);
        DUE.is("cell 63", x.cell(63), 0);
        DUE.is("flags", x.flags(), 1);
        x.width(1, 8);
        DUE.is("cut to the width now", x.restore(), 0);
        DUE.is("register 1", x.register(1), 0x34);
        x.width(1, 16);
        DUE.is("the image itself is not cut", x.restore(), 1);
        DUE.is("register 1", x.register(1), 0x1234);
        DUE.is("status -2", x.status(-2), 1);
    }
}
