/** Promises 1 to 8: a new object, registers, cells and flags. */
public final class InsideTest {
    private static final Due DUE = new Due("InsideTest");

    public static void main(String[] args) {
        newObject();
        width();
        set();
        register();
        poke();
        cell();
        flag();
        flags();
        DUE.end();
    }

    private static void newObject() {
        DUE.promise(1);
        StepStore x = new StepStore();
        for (int r = 0; r < 8; r++) {
            DUE.is("register " + r, x.register(r), 0);
            DUE.is("width " + r, x.width(r, 16), 16);
        }
        for (int c = 0; c < 64; c++) {
            DUE.is("cell " + c, x.cell(c), 0);
        }
        for (int i = 0; i < 12; i++) {
            DUE.is("clear " + i, x.clear(i), 0);
        }
        for (int c = 0; c < 16; c++) {
            DUE.is("code " + c, x.code(c, -1), -1);
        }
        DUE.is("flags", x.flags(), 0);
        DUE.is("buses", x.buses(1), 1);
        DUE.is("place", x.place(0, 0), -2);
        DUE.is("told 0", x.told(0), 0);
        DUE.is("told 1", x.told(1), 0);
        DUE.is("told 2", x.told(2), -1);
        DUE.is("count 0", x.count(0), 0);
        DUE.is("count 1", x.count(1), 0);
        DUE.is("count 2", x.count(2), 0);
        DUE.is("restore", x.restore(), -2);
        DUE.is("tear", x.tear(), 0);
        DUE.is("status -2", x.status(-2), 2);
        for (int by = -7; by < -2; by++) {
            DUE.is("status " + by, x.status(by), 0);
        }
        DUE.is("another object is apart", x.set(1, 5), 1);
        DUE.is("another object is apart", new StepStore().register(1), 0);
    }

    private static void width() {
        DUE.promise(2);
        StepStore x = new StepStore();
        x.set(3, 0xABCD);
        DUE.is("width(3, 8)", x.width(3, 8), 16);
        DUE.is("cut", x.register(3), 0xCD);
        DUE.is("width(3, 32)", x.width(3, 32), 8);
        DUE.is("what was cut stays away", x.register(3), 0xCD);
        DUE.is("others are not cut", x.width(2, 16), 16);
        x.set(3, -1);
        DUE.is("width(3, 1)", x.width(3, 1), 32);
        DUE.is("one bit", x.register(3), 1);
        DUE.is("width(8, 5)", x.width(8, 5), -3);
        DUE.is("width(-1, 0)", x.width(-1, 0), -3);
        DUE.is("width(0, 0)", x.width(0, 0), -6);
        DUE.is("width(0, 33)", x.width(0, 33), -6);
        DUE.is("width(0, min)", x.width(0, Integer.MIN_VALUE), -6);
        DUE.is("unchanged", x.width(0, 16), 16);
        DUE.is("status -3", x.status(-3), 2);
        DUE.is("status -6", x.status(-6), 3);
    }

    private static void set() {
        DUE.promise(3);
        StepStore x = new StepStore();
        DUE.is("set(0, 7)", x.set(0, 7), 1);
        DUE.is("set(0, 7) again", x.set(0, 7), 0);
        DUE.is("set(0, 65536 + 7), cut the same", x.set(0, 65543), 0);
        DUE.is("set(0, -1)", x.set(0, -1), 1);
        DUE.is("0 or more", x.register(0), 65535);
        DUE.is("set(7, min)", x.set(7, Long.MIN_VALUE), 0);
        DUE.is("set(7, max)", x.set(7, Long.MAX_VALUE), 1);
        DUE.is("register 7", x.register(7), 65535);
        x.width(1, 32);
        x.set(1, 0x1FFFFFFFEL);
        DUE.is("32 bits", x.register(1), 0xFFFFFFFEL);
        DUE.is("set(8, 1)", x.set(8, 1), -3);
        DUE.is("set(-1, 1)", x.set(-1, 1), -3);
        DUE.is("status -3", x.status(-3), 2);
    }

    private static void register() {
        DUE.promise(4);
        StepStore x = new StepStore();
        for (int r = 0; r < 8; r++) {
            x.set(r, 100 + r);
        }
        for (int r = 0; r < 8; r++) {
            DUE.is("register " + r, x.register(r), 100 + r);
        }
        DUE.is("register(8)", x.register(8), 0);
        DUE.is("register(-1)", x.register(-1), 0);
        DUE.is("register(max)", x.register(Integer.MAX_VALUE), 0);
        DUE.is("status -3", x.status(-3), 3);
    }

    private static void poke() {
        DUE.promise(5);
        StepStore x = new StepStore();
        DUE.is("poke(0, 9)", x.poke(0, 9), 1);
        DUE.is("poke(0, 9) again", x.poke(0, 9), 0);
        DUE.is("poke(0, 2^32 + 9)", x.poke(0, (1L << 32) + 9), 0);
        DUE.is("poke(63, -1)", x.poke(63, -1), 1);
        DUE.is("0 or more", x.cell(63), 4294967295L);
        DUE.is("poke(64, 0)", x.poke(64, 0), -3);
        DUE.is("poke(-1, 0)", x.poke(-1, 0), -3);
        DUE.is("status -3", x.status(-3), 2);
    }

    private static void cell() {
        DUE.promise(6);
        StepStore x = new StepStore();
        for (int c = 0; c < 64; c++) {
            x.poke(c, 1000 + c);
        }
        for (int c = 0; c < 64; c++) {
            DUE.is("cell " + c, x.cell(c), 1000 + c);
        }
        DUE.is("cell(64)", x.cell(64), 0);
        DUE.is("cell(-1)", x.cell(-1), 0);
        DUE.is("status -3", x.status(-3), 2);
    }

    private static void flag() {
        DUE.promise(7);
        StepStore x = new StepStore();
        DUE.is("flag(0, true)", x.flag(0, true), 0);
        DUE.is("flag(0, true) again", x.flag(0, true), 1);
        DUE.is("flag(0, false)", x.flag(0, false), 1);
        DUE.is("flag(0, false) again", x.flag(0, false), 0);
        DUE.is("flag(1, true)", x.flag(1, true), 0);
        DUE.is("flag(1, true) again", x.flag(1, true), 1);
        DUE.is("flag(2, true)", x.flag(2, true), -3);
        DUE.is("flag(-1, true)", x.flag(-1, true), -3);
        DUE.is("status -3", x.status(-3), 2);
        DUE.is("flags", x.flags(), 2);
    }

    private static void flags() {
        DUE.promise(8);
        StepStore x = new StepStore();
        x.flag(0, true);
        DUE.is("ZERO", x.flags(), 1);
        x.flag(1, true);
        DUE.is("both", x.flags(), 3);
        x.flag(0, false);
        DUE.is("TOP", x.flags(), 2);
    }
}
