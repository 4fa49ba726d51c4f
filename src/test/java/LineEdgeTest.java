import java.util.Map;
import java.util.function.Consumer;

/** The boundary cases of promises 30 to 34: ends of THE ROW, shorts, copies that overlap or reach beyond, status. */
public final class LineEdgeTest {
    private static final Due DUE = new Due("LineEdgeTest");
    private static final int LEAST = Integer.MIN_VALUE;
    private static final int MOST = Integer.MAX_VALUE;

    public static void main(String[] args) {
        for (Map.Entry<String, Consumer<StepStore>> state : States.all().entrySet()) {
            layRefused(state.getKey(), state.getValue());
            statusRefused(state.getKey(), state.getValue());
        }
        layEnds();
        layOfNone();
        tearEnds();
        rowMissing();
        rowEnds();
        rowShorts();
        copyMissing();
        copyEnds();
        copyOfNone();
        copyRefused();
        copyOverlaps();
        statusOfEach();
        statusOfItself();
        statusOfWhatLooksRefused();
        DUE.end();
    }

    private static void counted(StepStore x, int n) {
        for (int c = 0; c < 64; c++) {
            x.poke(c, 100 + c);
        }
        x.lay(0, n);
    }

    private static void layRefused(String name, Consumer<StepStore> state) {
        DUE.promise(30);
        for (int n : new int[] {-1, -2, LEAST}) {
            for (int from : new int[] {LEAST, -1, 0, 63, 64, MOST}) {
                Twins.refused(DUE, name + ": BELOW ahead of BEYOND, lay(" + from + ", " + n + ")", state, x -> x.lay(from, n), -4);
            }
        }
        int[][] beyond = {{0, 65}, {0, MOST}, {1, 64}, {63, 2}, {64, 1}, {65, 0}, {-1, 0}, {-1, 1}, {-1, 64}, {LEAST, 0},
            {LEAST, 64}, {LEAST, MOST}, {MOST, 0}, {MOST, 1}, {MOST, 64}, {MOST, MOST}, {-1, MOST}, {1, MOST}, {-1, 65}};
        for (int[] b : beyond) {
            Twins.refused(DUE, name + ": lay(" + b[0] + ", " + b[1] + ")", state, x -> x.lay(b[0], b[1]), -3);
        }
    }

    private static void layEnds() {
        DUE.promise(30);
        int[][] ends = {{0, 64}, {0, 63}, {1, 63}, {63, 1}, {0, 1}, {0, 0}, {63, 0}, {32, 32}};
        for (int[] e : ends) {
            Twins.taken(DUE, "lay(" + e[0] + ", " + e[1] + ")", x -> counted(x, 3), x -> x.lay(e[0], e[1]), e[1]);
            StepStore x = new StepStore();
            counted(x, 3);
            x.lay(e[0], e[1]);
            for (int i = 0; i < e[1]; i++) {
                DUE.is("number " + i, x.row(i), 100 + e[0] + i);
            }
            DUE.is("one behind the last", x.row(e[1]), -3);
        }
    }

    private static void layOfNone() {
        Twins.taken(DUE, "none, behind the last cell", States::whole, x -> x.lay(64, 0), 0);
        StepStore x = new StepStore();
        DUE.is("none", x.lay(0, 0), 0);
        DUE.is("THE ROW is there, without numbers", x.row(0), -3);
        DUE.is("a copy of none is one", x.copy(0, 0, 0), 0);
        DUE.is("it was there", x.tear(), 1);
    }

    private static void tearEnds() {
        DUE.promise(31);
        Twins.taken(DUE, "tear() at first", States::nothing, x -> x.tear(), 0);
        Twins.taken(DUE, "tear() of one that is there", States::whole, x -> x.tear(), 1);
        StepStore x = new StepStore();
        counted(x, 64);
        DUE.is("a full one", x.tear(), 1);
        DUE.is("it is missing", x.tear(), 0);
        DUE.is("its numbers too", x.row(0), -2);
        DUE.is("a refused lay()", x.lay(0, 65), -3);
        DUE.is("brings none", x.tear(), 0);
        DUE.is("the cells are there", x.cell(63), 163);
        x.lay(0, 2);
        DUE.is("a new one", x.row(1), 101);
        DUE.is("has no more than its own", x.row(2), -3);
    }

    private static void rowMissing() {
        DUE.promise(32);
        for (int i : new int[] {LEAST, -1, 0, 1, 63, 64, MOST}) {
            Twins.refused(DUE, "MISSING ahead of BEYOND, row(" + i + ")", States::nothing, x -> x.row(i), -2);
            Twins.refused(DUE, "MISSING ahead of BEYOND, row(" + i + ")", States::rows, x -> x.row(i), -2);
        }
    }

    private static void rowEnds() {
        Twins.outside(DUE, "row of twelve", States::whole, 0, 11, -3, v -> x -> x.row(v));
        Twins.outside(DUE, "row of 64", x -> counted(x, 64), 0, 63, -3, v -> x -> x.row(v));
        Twins.outside(DUE, "row of one", x -> counted(x, 1), 0, 0, -3, v -> x -> x.row(v));
        Twins.outside(DUE, "row of none", x -> counted(x, 0), 0, -1, -3, v -> x -> x.row(v));
        Twins.taken(DUE, "the first", x -> counted(x, 64), x -> x.row(0), 100);
        Twins.taken(DUE, "the last", x -> counted(x, 64), x -> x.row(63), 163);
    }

    private static void rowShorts() {
        long[][] rows = {{0, 0}, {32767, 32767}, {32768, -32768}, {32769, -32767}, {65535, -1}, {65536, 0},
            {65536 + 32768, -32768}, {(1L << 31) + 32767, 32767}, {4294967295L, -1}, {4294967295L - 32767, -32768}};
        for (long[] row : rows) {
            Consumer<StepStore> state = x -> {
                x.poke(63, row[0]);
                x.lay(63, 1);
            };
            Twins.taken(DUE, "the 16 lowest bits of " + row[0], state, x -> x.row(0), row[1]);
        }
    }

    private static void copyMissing() {
        DUE.promise(33);
        int[][] calls = {{0, 0, 0}, {0, 0, 1}, {0, 0, -1}, {-1, 0, 1}, {0, -1, LEAST}, {MOST, MOST, MOST}, {LEAST, LEAST, LEAST}};
        for (int[] c : calls) {
            String what = "MISSING ahead of all, copy(" + c[0] + ", " + c[1] + ", " + c[2] + ")";
            Twins.refused(DUE, what, States::nothing, x -> x.copy(c[0], c[1], c[2]), -2);
            Twins.refused(DUE, what, States::rows, x -> x.copy(c[0], c[1], c[2]), -2);
        }
    }

    private static void copyEnds() {
        int[][] calls = {{0, 0, 12}, {0, 1, 11}, {1, 0, 11}, {11, 0, 1}, {0, 11, 1}, {11, 11, 1}, {0, 0, 1}, {0, 6, 6}};
        for (int[] c : calls) {
            Twins.taken(DUE, "copy(" + c[0] + ", " + c[1] + ", " + c[2] + ")", States::whole, x -> x.copy(c[0], c[1], c[2]), c[2]);
        }
        Twins.taken(DUE, "all of a full one", x -> counted(x, 64), x -> x.copy(0, 0, 64), 64);
        StepStore x = new StepStore();
        counted(x, 64);
        x.copy(0, 63, 1);
        DUE.is("the first to the last", x.row(63), 100);
        DUE.is("no other", x.row(62), 162);
        DUE.is("no cell", x.cell(63), 163);
        counted(x, 64);
        x.copy(63, 0, 1);
        DUE.is("the last to the first", x.row(0), 163);
        DUE.is("no other", x.row(1), 101);
    }

    private static void copyOfNone() {
        int[][] calls = {{0, 0, 0}, {12, 0, 0}, {0, 12, 0}, {12, 12, 0}, {5, 7, 0}};
        for (int[] c : calls) {
            String what = "copy(" + c[0] + ", " + c[1] + ", 0)";
            Twins.taken(DUE, what, States::whole, x -> x.copy(c[0], c[1], c[2]), 0);
            StepStore x = new StepStore();
            counted(x, 12);
            x.copy(c[0], c[1], c[2]);
            for (int i = 0; i < 12; i++) {
                DUE.is(what + " changes nothing", x.row(i), 100 + i);
            }
        }
        Twins.refused(DUE, "none, of a row of none", x -> counted(x, 0), x -> x.copy(1, 0, 0), -5);
        Twins.refused(DUE, "none, of a row of none", x -> counted(x, 0), x -> x.copy(0, 1, 0), -5);
        Twins.refused(DUE, "one, of a row of none", x -> counted(x, 0), x -> x.copy(0, 0, 1), -5);
    }

    private static void copyRefused() {
        for (int n : new int[] {-1, -2, LEAST}) {
            for (int i : new int[] {LEAST, -1, 0, 12, 13, MOST}) {
                Twins.refused(DUE, "BELOW ahead of COPY, i " + i + ", n " + n, States::whole, x -> x.copy(i, 0, n), -4);
                Twins.refused(DUE, "BELOW ahead of COPY, j " + i + ", n " + n, States::whole, x -> x.copy(0, i, n), -4);
            }
        }
        int[][] pairs = {{-1, 0}, {-1, 1}, {-1, 13}, {LEAST, 0}, {LEAST, MOST}, {0, 13}, {1, 12}, {11, 2}, {12, 1}, {13, 0},
            {MOST, 0}, {MOST, 1}, {MOST, MOST}, {0, MOST}, {1, MOST}};
        for (int[] p : pairs) {
            Twins.refused(DUE, "copy(" + p[0] + ", 0, " + p[1] + ")", States::whole, x -> x.copy(p[0], 0, p[1]), -5);
            Twins.refused(DUE, "copy(0, " + p[0] + ", " + p[1] + ")", States::whole, x -> x.copy(0, p[0], p[1]), -5);
            Twins.refused(DUE, "copy of both " + p[0] + ", " + p[1], States::whole, x -> x.copy(p[0], p[0], p[1]), -5);
        }
        Twins.refused(DUE, "65 of 64", x -> counted(x, 64), x -> x.copy(0, 0, 65), -5);
        Twins.refused(DUE, "64 of 64 from 1 on", x -> counted(x, 64), x -> x.copy(1, 0, 64), -5);
        Twins.refused(DUE, "64 of 64 to 1 on", x -> counted(x, 64), x -> x.copy(0, 1, 64), -5);
    }

    /** Each way of copying within a row of five: "as they were". */
    private static void copyOverlaps() {
        for (int i = 0; i <= 5; i++) {
            for (int j = 0; j <= 5; j++) {
                for (int n = 0; n <= 5 - Math.max(i, j); n++) {
                    StepStore x = new StepStore();
                    counted(x, 5);
                    String what = "copy(" + i + ", " + j + ", " + n + ")";
                    DUE.is(what, x.copy(i, j, n), n);
                    for (int k = 0; k < 5; k++) {
                        boolean got = k >= j && k < j + n;
                        DUE.is(what + ", then row(" + k + ")", x.row(k), 100 + (got ? k - j + i : k));
                    }
                }
            }
        }
    }

    private static void statusRefused(String name, Consumer<StepStore> state) {
        DUE.promise(34);
        for (int by : new int[] {-1, -8, 0, 1, 2, 6, 7, 8, -9, LEAST, MOST}) {
            Twins.refused(DUE, name + ": status(" + by + ")", state, x -> x.status(by), -6);
        }
        for (int by = -7; by <= -2; by++) {
            int b = by;
            StepStore x = new StepStore();
            state.accept(x);
            Twins.taken(DUE, name + ": status(" + b + ")", state, y -> y.status(b), x.status(b));
        }
    }

    /** One refused call for each answer, one behind the other: each is counted under its own. */
    private static void statusOfEach() {
        DUE.promise(34);
        StepStore x = new StepStore();
        counted(x, 1);
        for (int i = 0; i < 10; i++) {
            x.act(0, 0, 0, 0, 0);
        }
        int[] due = new int[8];
        for (int round = 1; round <= 3; round++) {
            for (int by = -7; by <= -2; by++) {
                DUE.is("a call refused by " + by, refusedBy(x, by), by);
                due[-by]++;
                for (int b = -7; b <= -2; b++) {
                    DUE.is("status(" + b + ")", x.status(b), due[-b]);
                }
            }
        }
    }

    private static int refusedBy(StepStore x, int by) {
        return switch (by) {
            case -2 -> x.restore();
            case -3 -> x.set(8, 0);
            case -4 -> x.step(-1);
            case -5 -> x.copy(0, 0, 2);
            case -6 -> x.buses(0);
            default -> x.act(0, 0, 0, 0, 0);
        };
    }

    private static void statusOfItself() {
        StepStore x = new StepStore();
        for (int i = 1; i <= 5; i++) {
            DUE.is("status(0)", x.status(0), -6);
            DUE.is("it was refused, as others are", x.status(-6), i);
        }
        DUE.is("asking is not refused", x.status(-3), 0);
    }

    private static void statusOfWhatLooksRefused() {
        StepStore x = new StepStore();
        for (int v = 1; v <= 7; v++) {
            x.poke(v - 1, -v);
            x.act(0, 6, 0, 0, -v);
        }
        x.lay(0, 7);
        for (int v = 1; v <= 7; v++) {
            DUE.is("a number of THE ROW", x.row(v - 1), -v);
            DUE.is("y of a SHIFT", x.look(0, v - 1, 3), -v);
        }
        for (int by = -7; by <= -2; by++) {
            DUE.is("none was refused by " + by, x.status(by), 0);
        }
    }
}
