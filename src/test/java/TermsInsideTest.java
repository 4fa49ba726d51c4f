import java.math.BigInteger;
import java.util.function.Consumer;

/** The document's Terms, sentence by sentence: how long an object is used, and 1 THE INSIDE. */
public final class TermsInsideTest {
    private static final Due DUE = new Due("TermsInsideTest");
    private static final boolean[] BOTH_WAYS = {false, true};

    public static void main(String[] args) {
        calls();
        registers();
        flags();
        cells();
        cut();
        cutByActs();
        instructions();
        actsHave();
        set();
        move();
        workers();
        shift();
        fetch();
        store();
        skip();
        check();
        plain();
        traps();
        DUE.end();
    }

    private static void calls() {
        DUE.sentence("An object is used for at most 512 calls after it has been made");
        StepStore x = Acts.row(Acts.set(7, 0), Acts.check(0, 0));
        for (int c = 0; c < 16; c++) {
            x.code(c, 0);
        }
        x.width(7, 1);
        for (int call = 19; call < 511; call++) {
            DUE.is("call " + (call + 1) + ": step(1000)", x.step(1000), 1000);
        }
        DUE.is("the 512th call: count(1)", x.count(1), 492000);
    }

    private static void registers() {
        DUE.sentence("REGISTERS 0 .. 7, each of a WIDTH (1 .. 32; 16 at first), have numbers 0 .. 2^WIDTH - 1 (0 at first)");
        for (int r = 0; r < 8; r++) {
            StepStore x = new StepStore();
            DUE.is("register " + r + " at first", x.register(r), 0);
            int before = 16;
            for (int w = 1; w <= 32; w++) {
                DUE.is("width(" + r + ", " + w + ")", x.width(r, w), before);
                x.set(r, (1L << w) - 1);
                DUE.is("the most of " + w, x.register(r), (1L << w) - 1);
                x.set(r, 1L << w);
                DUE.is("one more than the most of " + w, x.register(r), 0);
                before = w;
            }
            DUE.is("width 0", x.width(r, 0), -6);
            DUE.is("width 33", x.width(r, 33), -6);
        }
        StepStore x = new StepStore();
        DUE.is("set(-1, 1)", x.set(-1, 1), -3);
        DUE.is("set(8, 1)", x.set(8, 1), -3);
        for (int r = 0; r < 8; r++) {
            x.width(r, r + 1);
            x.set(r, -1);
        }
        for (int r = 0; r < 8; r++) {
            DUE.is("each its own width and number: " + r, x.register(r), (1L << (r + 1)) - 1);
        }
    }

    private static void flags() {
        DUE.sentence("FLAGS 0 ZERO, 1 TOP (0 at first)");
        StepStore x = Acts.row(Acts.add(1, 2, 2));
        DUE.is("at first", x.flags(), 0);
        DUE.is("flag(-1, true)", x.flag(-1, true), -3);
        DUE.is("flag(2, true)", x.flag(2, true), -3);
        x.run(0, false);
        DUE.is("0 + 0: ZERO was", x.flag(0, false), 1);
        DUE.is("0 + 0: TOP was", x.flag(1, false), 0);
        x.set(2, 0xC000);
        x.run(0, false);
        DUE.is("49152 + 49152: ZERO was", x.flag(0, false), 0);
        DUE.is("49152 + 49152: TOP was", x.flag(1, false), 1);
    }

    private static void cells() {
        DUE.sentence("CELLS 0 .. 63 have numbers 0 .. 2^32 - 1 (0 at first)");
        StepStore x = new StepStore();
        for (int c = 0; c < 64; c++) {
            DUE.is("cell " + c + " at first", x.cell(c), 0);
            x.poke(c, 4294967295L - c);
        }
        for (int c = 0; c < 64; c++) {
            DUE.is("cell " + c, x.cell(c), 4294967295L - c);
            x.poke(c, 4294967296L + c);
            DUE.is("cell " + c + " behind 2^32", x.cell(c), c);
        }
        DUE.is("poke(-1, 1)", x.poke(-1, 1), -3);
        DUE.is("poke(64, 1)", x.poke(64, 1), -3);
    }

    private static final String CUT = "What a REGISTER or CELL gets is CUT: modulo 2^WIDTH, 2^32 (0 or more)";

    private static void cut() {
        DUE.sentence(CUT);
        long[] numbers = {0, 1, -1, -2, 255, 256, -256, 4294967296L, -4294967296L, 4294967297L,
            Long.MAX_VALUE, Long.MIN_VALUE, Long.MIN_VALUE + 1, 0x123456789ABCDEFL, -0x123456789ABCDEFL};
        StepStore x = new StepStore();
        for (long v : numbers) {
            for (int w : new int[] {1, 7, 8, 16, 31, 32}) {
                x.width(3, w);
                x.set(3, v);
                BigInteger due = BigInteger.valueOf(v).mod(BigInteger.TWO.pow(w));
                DUE.is(v + " in a register of " + w, x.register(3), due.longValue());
            }
            x.poke(9, v);
            DUE.is(v + " in a cell", x.cell(9), BigInteger.valueOf(v).mod(BigInteger.TWO.pow(32)).longValue());
        }
    }

    /** All else by which a register gets a number: each act that has a d, a lesser width, the IMAGE, PC. */
    private static void cutByActs() {
        int[][] acts = {Acts.set(1, 0xE5), Acts.move(1, 2), Acts.add(1, 2, 3), {3, 1, 3, 2}, {4, 1, 2, 2},
            {5, 1, 2, 3}, Acts.shift(1, 2, 1), Acts.fetch(1, 3)};
        long[] due = {5, 0xF, 2, 4, 0xF, 0xC, 0xE, 9};
        for (int i = 0; i < acts.length; i++) {
            for (boolean words : BOTH_WAYS) {
                StepStore x = Acts.row(acts[i]);
                x.width(1, 4);
                x.set(2, 0xABFF);
                x.set(3, 3);
                x.poke(3, 0x12345679);
                x.run(0, words);
                DUE.is("kind " + i + " cuts", x.register(1), due[i]);
            }
        }
        StepStore x = new StepStore();
        x.set(6, 0xABCD);
        x.image();
        x.width(6, 12);
        DUE.is("a lesser width cuts", x.register(6), 0xBCD);
        x.set(6, 0);
        x.restore();
        DUE.is("restore cuts", x.register(6), 0xBCD);
        x.code(0, 0);
        x.width(7, 2);
        DUE.is("five steps", x.step(5), 5);
        DUE.is("PC is cut", x.register(7), 1);
    }

    private static void instructions() {
        DUE.sentence("INSTRUCTIONS 0 .. 11 are rows of ACTS, 10 at most (none at first)");
        StepStore x = new StepStore();
        for (int i = 0; i < 12; i++) {
            DUE.is("none at first in " + i, x.look(i, 0, 0), -3);
            for (int a = 0; a < 10; a++) {
                DUE.is("act " + a + " of " + i, x.act(i, 0, 1, i * 10 + a, 0), a + 1);
            }
            DUE.is("an 11th of " + i, x.act(i, 0, 1, 1, 0), -7);
        }
        for (int i = 0; i < 12; i++) {
            for (int a = 0; a < 10; a++) {
                DUE.is("look at act " + a + " of " + i, x.look(i, a, 2), i * 10 + a);
            }
        }
        DUE.is("act of -1", x.act(-1, 0, 1, 1, 0), -3);
        DUE.is("act of 12", x.act(12, 0, 1, 1, 0), -3);
    }

    private static void actsHave() {
        DUE.sentence("ACTS have a KIND, d, x, y");
        StepStore x = Acts.row(new int[] {3, 7, 6, 5}, Acts.shift(1, 2, -31));
        int[][] due = {{3, 7, 6, 5}, {6, 1, 2, -31}};
        for (int i = 0; i < 2; i++) {
            for (int what = 0; what < 4; what++) {
                DUE.is("look(0, " + i + ", " + what + ")", x.look(0, i, what), due[i][what]);
            }
        }
        DUE.is("no KIND -1", x.act(0, -1, 0, 0, 0), -6);
        DUE.is("no KIND 11", x.act(0, 11, 0, 0, 0), -6);
    }

    /** Plainly and by words: how it ends, and what a register has then. */
    private static void ends(String what, Consumer<StepStore> state, int how, int register, long want, int[]... acts) {
        for (boolean words : BOTH_WAYS) {
            StepStore x = Acts.row(acts);
            state.accept(x);
            String which = what + (words ? ", by words" : ", plain");
            DUE.is(which, x.run(0, words), how);
            DUE.is(which + ": register " + register, x.register(register), want);
        }
    }

    private static void set() {
        DUE.sentence("0 SET: d gets the number x (0 .. 255)");
        for (int v = 0; v < 256; v++) {
            ends("SET " + v, x -> x.set(4, 256), 0, 4, v, Acts.set(4, v));
        }
        DUE.is("SET -1", Acts.give(new StepStore(), 0, Acts.set(4, -1)), -6);
        DUE.is("SET 256", Acts.give(new StepStore(), 0, Acts.set(4, 256)), -6);
    }

    private static void move() {
        DUE.sentence("1 MOVE: d gets x's");
        for (int d = 0; d < 8; d++) {
            for (int from = 0; from < 8; from++) {
                int of = from;
                ends("MOVE", x -> x.set(of, 1000 + of), 0, d, 1000 + from, Acts.move(d, from));
                ends("MOVE leaves x", x -> x.set(of, 1000 + of), 0, from, 1000 + from, Acts.move(d, from));
            }
        }
    }

    private static final String WORKERS = "2 ADD, 3 LESS, 4 BOTH, 5 UNLIKE: d gets x + y, x - y, the bits that both "
            + "have, that one alone has; ZERO is 1 if what d gets, CUT, is 0, else 0; TOP is 1, if x + y is more than "
            + "d's WIDTH has room for (2), if y is above x (3), else 0";

    private static void workers() {
        DUE.sentence(WORKERS);
        for (int width = 1; width <= 4; width++) {
            for (int a = 0; a < 8; a++) {
                for (int b = 0; b < 8; b++) {
                    work(width, 2, a, b, a + b, a + b >= 1 << width);
                    work(width, 3, a, b, a - b, b > a);
                    work(width, 4, a, b, a & b, false);
                    work(width, 5, a, b, a ^ b, false);
                }
            }
        }
        long most = 4294967295L;
        work(32, 2, most, most, 2 * most, true);
        work(32, 2, most, 1, most + 1, true);
        work(32, 2, most - 1, 1, most, false);
        work(32, 3, 0, most, -most, true);
        work(32, 4, most, 0x80000001L, 0x80000001L, false);
        work(32, 5, most, 0x80000001L, 0x7FFFFFFEL, false);
    }

    private static void work(int width, int kind, long a, long b, long gets, boolean top) {
        long due = Math.floorMod(gets, 1L << width);
        int flags = (due == 0 ? 1 : 0) + (top ? 2 : 0);
        for (boolean words : BOTH_WAYS) {
            StepStore x = Acts.row(new int[] {kind, 5, 1, 2});
            x.width(1, 32);
            x.width(2, 32);
            x.width(5, width);
            x.set(1, a);
            x.set(2, b);
            x.flag(0, flags % 2 == 0);
            x.flag(1, flags < 2);
            x.run(0, words);
            String what = "kind " + kind + " of " + a + ", " + b + " for " + width;
            DUE.is(what, x.register(5), due);
            DUE.is(what + ": flags", x.flags(), flags);
        }
    }

    private static void shift() {
        DUE.sentence("6 SHIFT: d gets x's number times 2^y (y -31 .. 31; below 0: divided by 2^-y, cut)");
        for (long v : new long[] {0, 1, 3, 0x80000000L, 0xDEADBEEFL, 4294967295L}) {
            for (int y = -31; y <= 31; y++) {
                BigInteger of = BigInteger.valueOf(v);
                BigInteger gets = y < 0 ? of.divide(BigInteger.TWO.pow(-y)) : of.multiply(BigInteger.TWO.pow(y));
                for (int width : new int[] {1, 20, 32}) {
                    Consumer<StepStore> state = x -> {
                        x.width(1, 32);
                        x.set(1, v);
                        x.width(2, width);
                    };
                    long due = gets.mod(BigInteger.TWO.pow(width)).longValue();
                    ends("SHIFT " + v + " by " + y + " for " + width, state, 0, 2, due, Acts.shift(2, 1, y));
                }
            }
        }
        DUE.is("SHIFT by -32", Acts.give(new StepStore(), 0, Acts.shift(2, 1, -32)), -6);
        DUE.is("SHIFT by 32", Acts.give(new StepStore(), 0, Acts.shift(2, 1, 32)), -6);
    }

    private static void fetch() {
        DUE.sentence("7 FETCH: d gets the CELL at x's number; it TRAPS if that is above 63");
        for (long at : new long[] {0, 1, 31, 62, 63, 64, 65, 127, 128, 65535, 65536, 4294967232L, 4294967295L}) {
            Consumer<StepStore> state = x -> {
                x.width(1, 32);
                x.set(1, at);
                x.set(2, 9);
                for (int c = 0; c < 64; c++) {
                    x.poke(c, 500 + c);
                }
            };
            ends("FETCH at " + at, state, at > 63 ? 2 : 0, 2, at > 63 ? 9 : 500 + at, Acts.fetch(2, 1));
        }
    }

    private static void store() {
        DUE.sentence("8 STORE: the CELL at x's number gets y's (d doesn't matter); it TRAPS likewise");
        for (long at : new long[] {0, 1, 31, 62, 63, 64, 65, 127, 128, 65535, 65536, 4294967232L, 4294967295L}) {
            for (int d : new int[] {0, -1, 8, Integer.MIN_VALUE, Integer.MAX_VALUE}) {
                for (boolean words : BOTH_WAYS) {
                    StepStore x = Acts.row(new int[] {8, d, 1, 2});
                    x.width(1, 32);
                    x.width(2, 32);
                    x.set(1, at);
                    x.set(2, 4294967295L);
                    x.image();
                    DUE.is("STORE at " + at, x.run(0, words), at > 63 ? 2 : 0);
                    if (at <= 63) {
                        DUE.is("the cell", x.cell((int) at), 4294967295L);
                    }
                    DUE.is("no other thing changed", x.restore(), at > 63 ? 0 : 1);
                }
            }
        }
    }

    private static void skip() {
        DUE.sentence("9 SKIP: if FLAG x is y (0, 1) all ACTS behind it in the row are not done");
        for (int both = 0; both < 4; both++) {
            for (int flag = 0; flag < 2; flag++) {
                for (int y = 0; y < 2; y++) {
                    int has = both;
                    boolean holds = (both >> flag & 1) == y;
                    Consumer<StepStore> state = x -> {
                        x.flag(0, has % 2 == 1);
                        x.flag(1, has > 1);
                        x.set(6, 64);
                    };
                    ends("SKIP " + flag + " " + y + " of " + both, state, holds ? 1 : 0, 1, holds ? 4 : 6,
                            Acts.set(1, 4), Acts.skip(flag, y), Acts.set(1, 5), Acts.set(1, 6));
                    ends("a TRAP behind SKIP", state, holds ? 1 : 2, 1, holds ? 4 : 0,
                            Acts.set(1, 4), Acts.skip(flag, y), Acts.fetch(1, 6), Acts.set(1, 6));
                }
            }
        }
        DUE.is("of FLAG 2", Acts.give(new StepStore(), 0, Acts.skip(2, 0)), -6);
        DUE.is("if it is 2", Acts.give(new StepStore(), 0, Acts.skip(0, 2)), -6);
    }

    private static void check() {
        DUE.sentence("10 CHECK: it TRAPS if FLAG x is y");
        for (int both = 0; both < 4; both++) {
            for (int flag = 0; flag < 2; flag++) {
                for (int y = 0; y < 2; y++) {
                    int has = both;
                    boolean traps = (both >> flag & 1) == y;
                    Consumer<StepStore> state = x -> {
                        x.flag(0, has % 2 == 1);
                        x.flag(1, has > 1);
                    };
                    ends("CHECK " + flag + " " + y + " of " + both, state, traps ? 2 : 0, 1, traps ? 0 : 5,
                            Acts.set(1, 4), Acts.check(flag, y), Acts.set(1, 5));
                }
            }
        }
        DUE.is("of FLAG 2", Acts.give(new StepStore(), 0, Acts.check(2, 0)), -6);
        DUE.is("if it is 2", Acts.give(new StepStore(), 0, Acts.check(0, 2)), -6);
    }

    private static void plain() {
        DUE.sentence("PLAIN: the ACTS of an INSTRUCTION are done one behind the other");
        StepStore x = Acts.row(Acts.set(1, 1), Acts.shift(1, 1, 1), Acts.add(1, 1, 1), Acts.set(2, 7),
                Acts.add(1, 1, 2), Acts.store(2, 1), Acts.fetch(3, 2), Acts.move(4, 3), Acts.move(3, 2), Acts.move(2, 4));
        DUE.is("run", x.run(0, false), 0);
        int[] due = {0, 11, 11, 7, 11};
        for (int r = 0; r < due.length; r++) {
            DUE.is("register " + r, x.register(r), due[r]);
        }
        DUE.is("cell 7", x.cell(7), 11);
        DUE.told("ten acts", x, 10, 0, -1);
    }

    private static void traps() {
        DUE.sentence("Where one TRAPS all is as ahead of the INSTRUCTION, and it ends");
        int[][] trapping = {Acts.fetch(3, 6), Acts.store(6, 3), Acts.check(0, 0)};
        for (int[] trap : trapping) {
            for (boolean words : BOTH_WAYS) {
                StepStore x = Acts.row(Acts.set(0, 9), Acts.store(0, 1), Acts.move(1, 0), Acts.add(2, 0, 1),
                        Acts.shift(3, 0, 2), Acts.fetch(4, 5), Acts.add(2, 2, 2), trap, Acts.set(1, 77), Acts.store(0, 6));
                Acts.give(x, 1, Acts.add(0, 1, 2), Acts.store(3, 4), Acts.set(5, 15));
                for (int r = 0; r < 6; r++) {
                    x.set(r, 10 + r);
                }
                x.set(6, 64);
                x.poke(9, 99);
                x.poke(15, 55);
                DUE.is("one ahead of it that does not TRAP", x.run(1, words), 0);
                x.flag(1, true);
                x.image();
                DUE.is("it TRAPS at kind " + trap[0], x.run(0, words), 2);
                DUE.is("all is as ahead", x.restore(), 0);
                DUE.is("the act that TRAPPED", x.told(2), 7);
                // By words some that stand before it in the row may have a later word than it.
                DUE.holds("the acts behind it are not done", words ? x.told(0) <= 8 : x.told(0) == 8);
            }
        }
    }
}
