/** Promises 30 to 34: THE ROW of numbers, and status. */
public final class LineTest {
    private static final Due DUE = new Due("LineTest");

    public static void main(String[] args) {
        lay();
        tear();
        row();
        copy();
        status();
        DUE.end();
    }

    private static StepStore filled() {
        StepStore x = new StepStore();
        for (int c = 0; c < 64; c++) {
            x.poke(c, 100 + c);
        }
        return x;
    }

    private static void row(String what, StepStore x, int... want) {
        for (int i = 0; i < want.length; i++) {
            DUE.is(what + ": row(" + i + ")", x.row(i), want[i]);
        }
    }

    private static void lay() {
        DUE.promise(30);
        StepStore x = filled();
        DUE.is("lay(3, 4)", x.lay(3, 4), 4);
        row("from 3", x, 103, 104, 105, 106, -3);
        DUE.is("lay(0, 64)", x.lay(0, 64), 64);
        DUE.is("the last", x.row(63), 163);
        DUE.is("lay(63, 1)", x.lay(63, 1), 1);
        DUE.is("lay(60, 5)", x.lay(60, 5), -3);
        DUE.is("lay(0, 65)", x.lay(0, 65), -3);
        DUE.is("lay(64, 1)", x.lay(64, 1), -3);
        DUE.is("lay(-1, 2)", x.lay(-1, 2), -3);
        DUE.is("lay(max, max)", x.lay(Integer.MAX_VALUE, Integer.MAX_VALUE), -3);
        DUE.is("lay(min, max)", x.lay(Integer.MIN_VALUE, Integer.MAX_VALUE), -3);
        DUE.is("BELOW ahead of BEYOND", x.lay(99, -1), -4);
        DUE.is("lay(0, min)", x.lay(0, Integer.MIN_VALUE), -4);
        row("refused calls change nothing", x, 163, -3);
        x.poke(63, 5);
        row("cells that change do not", x, 163);
        DUE.is("lay(5, 0)", x.lay(5, 0), 0);
        DUE.is("an empty one is there", x.row(0), -3);
        DUE.is("lay(64, 0)", x.lay(64, 0), 0);
        DUE.is("status -4", x.status(-4), 2);
    }

    private static void tear() {
        DUE.promise(31);
        StepStore x = filled();
        DUE.is("at first", x.tear(), 0);
        x.lay(0, 0);
        DUE.is("an empty one", x.tear(), 1);
        DUE.is("again", x.tear(), 0);
        x.lay(0, 3);
        DUE.is("one of three", x.tear(), 1);
        DUE.is("missing", x.row(0), -2);
    }

    private static void row() {
        DUE.promise(32);
        StepStore x = new StepStore();
        DUE.is("MISSING ahead of BEYOND", x.row(-1), -2);
        long[] cells = {32767, 32768, 65535, 65536, 0xFFFFFFFFL, 0x12348000L, 65533};
        for (int i = 0; i < cells.length; i++) {
            x.poke(i, cells[i]);
        }
        x.lay(0, cells.length);
        row("as shorts", x, 32767, -32768, -1, 0, -1, -32768, -3);
        DUE.is("a number that looks like a refusal is none", x.status(-3), 0);
        DUE.is("row(7)", x.row(7), -3);
        DUE.is("row(-1)", x.row(-1), -3);
        DUE.is("row(max)", x.row(Integer.MAX_VALUE), -3);
        DUE.is("status -3", x.status(-3), 3);
        DUE.is("status -2", x.status(-2), 1);
    }

    private static void copy() {
        DUE.promise(33);
        StepStore x = filled();
        DUE.is("MISSING ahead of BELOW", x.copy(0, 0, -1), -2);
        x.lay(0, 5);
        DUE.is("copy(0, 1, 4)", x.copy(0, 1, 4), 4);
        row("as they were", x, 100, 100, 101, 102, 103);
        DUE.is("copy(2, 0, 3)", x.copy(2, 0, 3), 3);
        row("downwards", x, 101, 102, 103, 102, 103);
        DUE.is("copy(5, 5, 0)", x.copy(5, 5, 0), 0);
        DUE.is("copy(0, 0, 5)", x.copy(0, 0, 5), 5);
        row("upon itself", x, 101, 102, 103, 102, 103);
        DUE.is("BELOW ahead of COPY", x.copy(-1, 99, -1), -4);
        int max = Integer.MAX_VALUE;
        int[][] wrong = {{-1, 0, 1}, {0, -1, 1}, {0, 0, 6}, {3, 0, 3}, {0, 3, 3}, {6, 0, 0}, {0, 6, 0},
            {max, 0, max}, {0, max, max}, {1, 1, max}, {Integer.MIN_VALUE, 0, max}};
        for (int[] w : wrong) {
            DUE.is("copy(" + w[0] + ", " + w[1] + ", " + w[2] + ")", x.copy(w[0], w[1], w[2]), -5);
        }
        row("refused calls change nothing", x, 101, 102, 103, 102, 103);
        DUE.is("the cells are as they were", x.cell(1), 101);
        DUE.is("status -5", x.status(-5), wrong.length);
        DUE.is("status -4", x.status(-4), 1);
        DUE.is("status -2", x.status(-2), 1);
    }

    private static void status() {
        DUE.promise(34);
        StepStore x = new StepStore();
        int[] wrong = {-8, -1, 0, 1, Integer.MIN_VALUE, Integer.MAX_VALUE, 6};
        for (int by : wrong) {
            DUE.is("status(" + by + ")", x.status(by), -6);
        }
        DUE.is("these are refused too", x.status(-6), wrong.length);
        x.restore();
        x.register(8);
        x.cell(64);
        x.step(-1);
        x.lay(0, 1);
        x.copy(0, 0, 2);
        for (int i = 0; i < 12; i++) {
            x.act(0, 0, 0, 0, 0);
        }
        int[] wanted = {2, 1, 1, wrong.length, 1, 2};
        int[] order = {-7, -5, -4, -6, -2, -3};
        for (int i = 0; i < order.length; i++) {
            DUE.is("status(" + order[i] + ")", x.status(order[i]), wanted[i]);
        }
        StepStore y = new StepStore();
        y.code(0, -1);
        y.told(2);
        y.store();
        y.group(0);
        DUE.is("NONE is no refusal", y.status(-2) + y.status(-3) + y.status(-6), 0);
    }
}
