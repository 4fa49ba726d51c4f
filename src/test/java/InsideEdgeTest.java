import java.util.Map;
import java.util.function.Consumer;

/** The boundary cases of promises 1 to 8: the ends of registers, widths, flags, cells, and what is CUT. */
public final class InsideEdgeTest {
    private static final Due DUE = new Due("InsideEdgeTest");
    private static final long MOST_CELL = 4294967295L;

    public static void main(String[] args) {
        nothingAtFirst();
        firstWidth();
        for (Map.Entry<String, Consumer<StepStore>> state : States.all().entrySet()) {
            refusals(state.getKey(), state.getValue());
        }
        widthEnds();
        widthCuts();
        widthOfTheSame();
        setCuts();
        setTellsOfTheCutNumber();
        registerEnds();
        pokeCuts();
        pokeTellsOfTheCutNumber();
        cellEnds();
        flagEnds();
        flagsOfEach();
        DUE.end();
    }

    private static long most(int width) {
        return (1L << width) - 1;
    }

    private static void nothingAtFirst() {
        DUE.promise(1);
        StepStore x = new StepStore();
        for (int by = -7; by <= -2; by++) {
            DUE.is("status(" + by + ") of a new object", x.status(by), 0);
        }
        for (int instruction = 0; instruction < 12; instruction++) {
            DUE.is("no act in " + instruction, x.look(instruction, 0, 0), -3);
            DUE.is("no words in " + instruction, x.place(instruction, 0), -2);
        }
        DUE.is("no THE STORE: at", x.at(0, 0), -2);
        DUE.is("no THE STORE: group", x.group(0), -2);
        DUE.is("no THE STORE: narrow", x.narrow(0), -2);
        DUE.is("no THE ROW: row", x.row(0), -2);
        DUE.is("no THE ROW: copy", x.copy(0, 0, 0), -2);
        DUE.is("no IMAGE", x.restore(), -2);
        DUE.is("no code", x.step(1), 0);
        DUE.is("it ended by that", x.count(2), 2);
    }

    private static void firstWidth() {
        for (int r = 0; r < 8; r++) {
            StepStore x = new StepStore();
            x.set(r, 65535);
            DUE.is("16 bits at first: the most in register " + r, x.register(r), 65535);
            x.set(r, 65536);
            DUE.is("16 bits at first: one more in register " + r, x.register(r), 0);
        }
    }

    private static void refusals(String name, Consumer<StepStore> state) {
        DUE.promise(2);
        Twins.outside(DUE, name + ": width of register", state, 0, 7, -3, v -> x -> x.width(v, 8));
        Twins.outside(DUE, name + ": width(7, ..)", state, 1, 32, -6, v -> x -> x.width(7, v));
        Twins.outside(DUE, name + ": BEYOND ahead of NO, width too small", state, 0, 7, -3, v -> x -> x.width(v, 0));
        Twins.outside(DUE, name + ": BEYOND ahead of NO, width too large", state, 0, 7, -3, v -> x -> x.width(v, 33));
        DUE.promise(3);
        Twins.outside(DUE, name + ": set of register", state, 0, 7, -3, v -> x -> x.set(v, 1));
        DUE.promise(4);
        outsideTelling0(name + ": register", state, 7, false);
        DUE.promise(5);
        Twins.outside(DUE, name + ": poke of cell", state, 0, 63, -3, v -> x -> x.poke(v, 1));
        DUE.promise(6);
        outsideTelling0(name + ": cell", state, 63, true);
        DUE.promise(7);
        Twins.outside(DUE, name + ": flag true", state, 0, 1, -3, v -> x -> x.flag(v, true));
        Twins.outside(DUE, name + ": flag false", state, 0, 1, -3, v -> x -> x.flag(v, false));
    }

    private static void outsideTelling0(String what, Consumer<StepStore> state, int most, boolean cell) {
        for (int v : new int[] {-1, most + 1, Integer.MIN_VALUE, Integer.MAX_VALUE}) {
            Twins.refused(DUE, what + " " + v, state, x -> cell ? x.cell(v) : x.register(v), 0, -3);
        }
    }

    private static void widthEnds() {
        DUE.promise(2);
        for (int r : new int[] {0, 7}) {
            Twins.taken(DUE, "width(" + r + ", 1)", States::nothing, x -> x.width(r, 1), 16);
            Twins.taken(DUE, "width(" + r + ", 32)", States::nothing, x -> x.width(r, 32), 16);
            StepStore x = new StepStore();
            x.width(r, 1);
            DUE.is("from 1 to 32", x.width(r, 32), 1);
            DUE.is("from 32 to 1", x.width(r, 1), 32);
            DUE.is("it is 1", x.width(r, 1), 1);
        }
    }

    private static void widthCuts() {
        for (int w = 1; w <= 32; w++) {
            StepStore x = new StepStore();
            for (int r = 0; r < 8; r++) {
                x.width(r, 32);
                x.set(r, -1);
            }
            x.poke(3, -1);
            DUE.is("width(3, " + w + ")", x.width(3, w), 32);
            DUE.is("cut to " + w, x.register(3), most(w));
            DUE.is("the one below is not cut", x.register(2), MOST_CELL);
            DUE.is("the one above is not cut", x.register(4), MOST_CELL);
            DUE.is("no cell is cut", x.cell(3), MOST_CELL);
            x.width(3, 32);
            DUE.is("a greater width brings nothing back", x.register(3), most(w));
            x.set(3, 1L << (w - 1));
            x.width(3, w);
            DUE.is("the highest bit of " + w + " stays", x.register(3), 1L << (w - 1));
            if (w > 1) {
                x.width(3, w - 1);
                DUE.is("it goes with a width of one less", x.register(3), 0);
            }
        }
    }

    private static void widthOfTheSame() {
        StepStore x = new StepStore();
        x.set(5, 65535);
        DUE.is("the same width", x.width(5, 16), 16);
        DUE.is("cuts nothing", x.register(5), 65535);
    }

    /** What a register of each width, or a cell, gets of a number. */
    private static void setCuts() {
        DUE.promise(3);
        for (int w = 1; w <= 32; w++) {
            StepStore x = new StepStore();
            x.width(6, w);
            long[][] rows = {{0, 0}, {most(w), most(w)}, {1L << w, 0}, {(1L << w) + 1, 1}, {-1, most(w)},
                {-(1L << w), 0}, {-(1L << w) - 1, most(w)}, {Long.MIN_VALUE, 0}, {Long.MIN_VALUE + 1, 1},
                {Long.MAX_VALUE, most(w)}, {Long.MAX_VALUE - 1, most(w) - 1}};
            for (long[] row : rows) {
                long before = x.register(6);
                DUE.is("set(6, " + row[0] + ") of width " + w, x.set(6, row[0]), before == row[1] ? 0 : 1);
                DUE.is("then register(6)", x.register(6), row[1]);
            }
        }
    }

    private static void setTellsOfTheCutNumber() {
        StepStore x = new StepStore();
        DUE.is("0 to 0", x.set(0, 0), 0);
        DUE.is("0 to 65536, which is 0", x.set(0, 65536), 0);
        DUE.is("0 to the least long, which is 0", x.set(0, Long.MIN_VALUE), 0);
        DUE.is("0 to 65535", x.set(0, 65535), 1);
        DUE.is("65535 to -1, which is 65535", x.set(0, -1), 0);
        DUE.is("65535 to the greatest long, which is 65535", x.set(0, Long.MAX_VALUE), 0);
        DUE.is("the first and the last register are apart", x.set(7, 65535), 1);
        DUE.is("no other one got it", x.register(1) + x.register(6), 0);
    }

    private static void registerEnds() {
        DUE.promise(4);
        Consumer<StepStore> state = x -> {
            x.set(0, 11);
            x.set(7, 22);
        };
        Twins.taken(DUE, "register(0)", state, x -> x.register(0), 11);
        Twins.taken(DUE, "register(7)", state, x -> x.register(7), 22);
        StepStore x = new StepStore();
        x.width(7, 32);
        x.set(7, -1);
        DUE.is("the greatest number is no int", x.register(7), MOST_CELL);
        for (int i = 1; i <= 3; i++) {
            x.register(8);
            DUE.is("each refusal is told of", x.status(-3), i);
        }
    }

    private static void pokeCuts() {
        DUE.promise(5);
        StepStore x = new StepStore();
        long[][] rows = {{0, 0}, {MOST_CELL, MOST_CELL}, {MOST_CELL + 1, 0}, {MOST_CELL + 2, 1}, {-1, MOST_CELL},
            {-MOST_CELL - 1, 0}, {-MOST_CELL - 2, MOST_CELL}, {Long.MIN_VALUE, 0}, {Long.MIN_VALUE + 1, 1},
            {Long.MAX_VALUE, MOST_CELL}, {1L << 31, 1L << 31}, {Integer.MIN_VALUE, 1L << 31}};
        for (int cell : new int[] {0, 63}) {
            for (long[] row : rows) {
                long before = x.cell(cell);
                DUE.is("poke(" + cell + ", " + row[0] + ")", x.poke(cell, row[0]), before == row[1] ? 0 : 1);
                DUE.is("then cell(" + cell + ")", x.cell(cell), row[1]);
            }
        }
        DUE.is("no other one got it", x.cell(1) + x.cell(62), 0);
    }

    private static void pokeTellsOfTheCutNumber() {
        StepStore x = new StepStore();
        DUE.is("0 to 2^32, which is 0", x.poke(63, MOST_CELL + 1), 0);
        DUE.is("0 to -1", x.poke(63, -1), 1);
        DUE.is("2^32 - 1 to -1", x.poke(63, -1), 0);
        DUE.is("2^32 - 1 to the greatest long", x.poke(63, Long.MAX_VALUE), 0);
        for (int r = 0; r < 8; r++) {
            x.width(r, 1);
        }
        DUE.is("widths of registers are nothing to cells", x.poke(7, 2), 1);
        DUE.is("widths of registers are nothing to cells", x.cell(7), 2);
    }

    private static void cellEnds() {
        DUE.promise(6);
        Consumer<StepStore> state = x -> {
            x.poke(0, 33);
            x.poke(63, -1);
        };
        Twins.taken(DUE, "cell(0)", state, x -> x.cell(0), 33);
        Twins.taken(DUE, "cell(63)", state, x -> x.cell(63), MOST_CELL);
        StepStore x = new StepStore();
        for (int i = 1; i <= 3; i++) {
            x.cell(64);
            DUE.is("each refusal is told of", x.status(-3), i);
        }
    }

    private static void flagEnds() {
        DUE.promise(7);
        for (int flag = 0; flag <= 1; flag++) {
            int f = flag;
            Twins.taken(DUE, "flag(" + f + ", false)", States::nothing, x -> x.flag(f, false), 0);
            Twins.taken(DUE, "flag(" + f + ", true)", States::nothing, x -> x.flag(f, true), 0);
            StepStore x = new StepStore();
            x.flag(f, true);
            DUE.is("it alone is 1", x.flags(), f == 0 ? 1 : 2);
            DUE.is("it was 1", x.flag(f, true), 1);
            DUE.is("the other was 0", x.flag(1 - f, false), 0);
            DUE.is("it was 1 still", x.flag(f, false), 1);
            DUE.is("none is", x.flags(), 0);
        }
    }

    private static void flagsOfEach() {
        DUE.promise(8);
        for (int want = 0; want <= 3; want++) {
            StepStore x = new StepStore();
            x.flag(0, want % 2 == 1);
            x.flag(1, want >= 2);
            DUE.is("flags()", x.flags(), want);
            DUE.is("flags() again", x.flags(), want);
        }
    }
}
