import java.util.Map;
import java.util.function.Consumer;

/** The boundary cases of promises 9 to 13: instructions, acts, d, x, y of each kind, buses, needs. */
public final class RowsEdgeTest {
    private static final Due DUE = new Due("RowsEdgeTest");
    private static final int LEAST = Integer.MIN_VALUE;
    private static final int MOST = Integer.MAX_VALUE;
    /** Of each kind the least and the most that d, x, y may be; null: it has none. */
    private static final int[][][] RANGES = {
        {{0, 7}, {0, 255}, null}, {{0, 7}, {0, 7}, null},
        {{0, 7}, {0, 7}, {0, 7}}, {{0, 7}, {0, 7}, {0, 7}}, {{0, 7}, {0, 7}, {0, 7}}, {{0, 7}, {0, 7}, {0, 7}},
        {{0, 7}, {0, 7}, {-31, 31}}, {{0, 7}, {0, 7}, null}, {null, {0, 7}, {0, 7}},
        {null, {0, 1}, {0, 1}}, {null, {0, 1}, {0, 1}},
    };

    public static void main(String[] args) {
        for (Map.Entry<String, Consumer<StepStore>> state : States.all().entrySet()) {
            refusals(state.getKey(), state.getValue());
        }
        actNumbersRefused();
        actNumbersTaken();
        actInstructionEnds();
        actFull();
        clearEnds();
        lookEnds();
        lookOfWhatAKindHasNot();
        busesEnds();
        needsEnds();
        needsOrder();
        DUE.end();
    }

    private static void refusals(String name, Consumer<StepStore> state) {
        DUE.promise(9);
        Twins.outside(DUE, name + ": act in", state, 0, 11, -3, v -> x -> x.act(v, 0, 0, 0, 0));
        Twins.outside(DUE, name + ": act of kind", state, 0, 10, -6, v -> x -> x.act(0, v, 0, 0, 0));
        Twins.outside(DUE, name + ": BEYOND ahead of NO for the kind in", state, 0, 11, -3, v -> x -> x.act(v, 11, 0, 0, 0));
        Twins.outside(DUE, name + ": BEYOND ahead of NO for d in", state, 0, 11, -3, v -> x -> x.act(v, 0, 8, 0, 0));
        DUE.promise(10);
        Twins.outside(DUE, name + ": clear", state, 0, 11, -3, v -> x -> x.clear(v));
        DUE.promise(11);
        Twins.outside(DUE, name + ": look in", state, 0, 11, -3, v -> x -> x.look(v, 0, 0));
        Twins.outside(DUE, name + ": BEYOND ahead of NO, look in", state, 0, 11, -3, v -> x -> x.look(v, 0, 6));
        Twins.refused(DUE, name + ": look in one without acts", state, x -> x.look(States.EMPTY, 0, 0), -3);
        Twins.refused(DUE, name + ": look in one without acts, NO too", state, x -> x.look(States.EMPTY, 0, -1), -3);
        DUE.promise(12);
        Twins.outside(DUE, name + ": buses", state, 1, 3, -6, v -> x -> x.buses(v));
        DUE.promise(13);
        Twins.outside(DUE, name + ": needs in", state, 0, 11, -3, v -> x -> x.needs(v, 0, 1));
        Twins.outside(DUE, name + ": BEYOND ahead of NO, needs in", state, 0, 11, -3, v -> x -> x.needs(v, 1, 0));
        Twins.refused(DUE, name + ": needs in one without acts", state, x -> x.needs(States.EMPTY, 0, 1), -3);
        Twins.refused(DUE, name + ": needs of the same act, which is none", state, x -> x.needs(States.EMPTY, 0, 0), -3);
    }

    private static int within(int[] range, int other) {
        return range == null ? other : range[1];
    }

    private static int actWith(StepStore x, int instruction, int kind, int which, int v) {
        int[][] ranges = RANGES[kind];
        int[] numbers = {within(ranges[0], 0), within(ranges[1], 0), within(ranges[2], 0)};
        numbers[which] = v;
        return x.act(instruction, kind, numbers[0], numbers[1], numbers[2]);
    }

    private static void actNumbersRefused() {
        DUE.promise(9);
        for (int kind = 0; kind <= 10; kind++) {
            for (int which = 0; which < 3; which++) {
                int[] range = RANGES[kind][which];
                if (range != null) {
                    int k = kind;
                    int w = which;
                    String what = "kind " + kind + " with its " + "dxy".charAt(which);
                    Twins.outside(DUE, what, States::whole, range[0], range[1], -6, v -> x -> actWith(x, 0, k, w, v));
                    Twins.outside(DUE, what + ", NO ahead of FULL,", States::whole, range[0], range[1], -6,
                            v -> x -> actWith(x, States.FULL, k, w, v));
                }
            }
        }
    }

    private static void actNumbersTaken() {
        for (int kind = 0; kind <= 10; kind++) {
            for (int which = 0; which < 3; which++) {
                int[] range = RANGES[kind][which];
                int[] ends = range == null ? new int[] {LEAST, -1, 0, 256, MOST} : range;
                for (int v : ends) {
                    int k = kind;
                    int w = which;
                    String what = "kind " + kind + " with its " + "dxy".charAt(which) + " " + v;
                    Twins.taken(DUE, what, States::nothing, x -> actWith(x, 5, k, w, v), 1);
                    StepStore x = new StepStore();
                    actWith(x, 5, kind, which, v);
                    DUE.is(what + ", looked at", x.look(5, 0, 1 + which), range == null ? -1 : v);
                }
            }
        }
    }

    private static void actInstructionEnds() {
        for (int instruction : new int[] {0, 11}) {
            Twins.taken(DUE, "act in " + instruction, States::nothing, x -> x.act(instruction, 10, 0, 1, 1), 1);
            StepStore x = new StepStore();
            x.act(instruction, 10, 0, 1, 1);
            DUE.is("it is there", x.look(instruction, 0, 0), 10);
            DUE.is("and nowhere else", x.clear(instruction == 0 ? 1 : 10), 0);
        }
    }

    private static void actFull() {
        for (int kind = 0; kind <= 10; kind++) {
            int k = kind;
            Twins.refused(DUE, "an 11th act of kind " + kind, States::rows, x -> x.act(States.FULL, k, 0, 0, 0), -7);
            Twins.refused(DUE, "an 11th act of kind " + kind, States::whole, x -> x.act(States.FULL, k, 0, 0, 0), -7);
        }
        Twins.refused(DUE, "NO ahead of FULL for the kind", States::whole, x -> x.act(States.FULL, 11, 0, 0, 0), -6);
        Twins.refused(DUE, "NO ahead of FULL for the kind", States::whole, x -> x.act(States.FULL, -1, 0, 0, 0), -6);
        StepStore x = new StepStore();
        for (int instruction = 0; instruction < 12; instruction++) {
            for (int i = 1; i <= 10; i++) {
                DUE.is("act " + i + " in " + instruction, x.act(instruction, 0, 7, 10 * instruction + i, 0), i);
            }
            DUE.is("full " + instruction, x.act(instruction, 0, 7, 0, 0), -7);
        }
        for (int instruction = 0; instruction < 12; instruction++) {
            DUE.is("its first", x.look(instruction, 0, 2), 10 * instruction + 1);
            DUE.is("its last", x.look(instruction, 9, 2), 10 * instruction + 10);
        }
        DUE.is("clear of a full one", x.clear(11), 10);
        DUE.is("then there is room", x.act(11, 0, 0, 0, 0), 1);
        DUE.is("there alone", x.act(10, 0, 0, 0, 0), -7);
        DUE.is("status(-7)", x.status(-7), 13);
    }

    private static void clearEnds() {
        DUE.promise(10);
        Twins.taken(DUE, "clear(0)", States::whole, x -> x.clear(0), 2);
        Twins.taken(DUE, "clear(11)", States::whole, x -> x.clear(11), 10);
        Twins.taken(DUE, "clear of one without acts", States::whole, x -> x.clear(States.EMPTY), 0);
        StepStore x = new StepStore();
        States.whole(x);
        x.clear(1);
        DUE.is("it has none", x.look(1, 0, 0), -3);
        DUE.is("the one below has its", x.look(0, 1, 0), 2);
        DUE.is("the one above has its", x.look(2, 2, 0), 9);
        DUE.is("a second time", x.clear(1), 0);
        DUE.is("an old act does not come back", x.act(1, 6, 0, 0, 0), 1);
        DUE.is("it is the first", x.look(1, 0, 0), 6);
        DUE.is("there is no second", x.look(1, 1, 0), -3);
    }

    private static void lookEnds() {
        DUE.promise(11);
        Twins.outside(DUE, "look at act", States::whole, 0, 2, -3, v -> x -> x.look(States.PACKED, v, 0));
        Twins.outside(DUE, "look at act of a full one", States::whole, 0, 9, -3, v -> x -> x.look(States.FULL, v, 0));
        Twins.outside(DUE, "BEYOND ahead of NO, act", States::whole, 0, 2, -3, v -> x -> x.look(States.PACKED, v, 6));
        Twins.outside(DUE, "look for", States::whole, 0, 5, -6, v -> x -> x.look(States.PACKED, 0, v));
        int[][] wanted = {{1, 3, 2, -1, 0, 0}, {6, 4, 3, -3, 2, 0}, {9, -1, 0, 0, 4, 0}};
        for (int i = 0; i < 3; i++) {
            for (int what = 0; what < 6; what++) {
                int act = i;
                int w = what;
                Twins.taken(DUE, "look(2, " + i + ", " + what + ")", States::whole, x -> x.look(2, act, w), wanted[i][what]);
            }
        }
        Twins.taken(DUE, "the last of a full one", States::whole, x -> x.look(States.FULL, 9, 1), 3);
        Twins.taken(DUE, "the first instruction", States::whole, x -> x.look(0, 0, 2), 5);
    }

    private static void lookOfWhatAKindHasNot() {
        for (int kind = 0; kind <= 10; kind++) {
            for (int which = 0; which < 3; which++) {
                if (RANGES[kind][which] == null) {
                    int k = kind;
                    int what = 1 + which;
                    Twins.taken(DUE, "kind " + kind + " has no " + "dxy".charAt(which),
                            x -> x.act(0, k, 1, 1, 1), x -> x.look(0, 0, what), -1);
                }
            }
        }
    }

    private static void busesEnds() {
        DUE.promise(12);
        Twins.taken(DUE, "buses(1)", States::nothing, x -> x.buses(1), 1);
        Twins.taken(DUE, "buses(3)", States::nothing, x -> x.buses(3), 1);
        StepStore x = new StepStore();
        x.buses(3);
        DUE.is("refused", x.buses(4), -6);
        DUE.is("refused", x.buses(0), -6);
        DUE.is("there are 3 still", x.buses(1), 3);
        DUE.is("there is 1", x.buses(2), 1);
    }

    private static void needsEnds() {
        DUE.promise(13);
        Twins.outside(DUE, "needs of i", States::whole, 0, 9, -3, v -> x -> x.needs(States.FULL, v, 9));
        Twins.outside(DUE, "needs of j", States::whole, 0, 9, -3, v -> x -> x.needs(States.FULL, 0, v));
        Twins.outside(DUE, "needs of both", States::whole, 0, 9, -3, v -> x -> x.needs(States.FULL, v, v));
        Twins.refused(DUE, "one act has no other", x -> x.act(0, 0, 0, 0, 0), x -> x.needs(0, 0, 1), -3);
        Twins.taken(DUE, "the first and the last", States::whole, x -> x.needs(States.FULL, 0, 9), 0);
        Twins.taken(DUE, "the last two", States::whole, x -> x.needs(States.FULL, 8, 9), 2);
        Twins.taken(DUE, "the first two", States::whole, x -> x.needs(0, 0, 1), 2);
    }

    private static void needsOrder() {
        for (int i = 0; i < 10; i++) {
            for (int j = 0; j <= i; j++) {
                int a = i;
                int b = j;
                Twins.refused(DUE, "needs(11, " + i + ", " + j + ")", States::rows, x -> x.needs(States.FULL, a, b), -6);
            }
        }
        Twins.refused(DUE, "i beyond and not before j", States::whole, x -> x.needs(States.FULL, 10, 0), -3);
        Twins.refused(DUE, "j beyond and not behind i", States::whole, x -> x.needs(States.FULL, 0, -1), -3);
    }
}
