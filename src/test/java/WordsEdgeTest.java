import java.util.Map;
import java.util.function.Consumer;

/** The boundary cases of promises 14 to 21: acts of a part in a word, rows without acts, last words, empty fields. */
public final class WordsEdgeTest {
    private static final Due DUE = new Due("WordsEdgeTest");

    public static void main(String[] args) {
        for (Map.Entry<String, Consumer<StepStore>> state : States.all().entrySet()) {
            refusals(state.getKey(), state.getValue());
            packOfNoActs(state.getKey(), state.getValue());
        }
        packEnds();
        busesOfAWord();
        onePartEach();
        theMostOfAWord();
        wordEnds();
        wordMissing();
        whyEnds();
        storeOfNothing();
        storeFull();
        storeOfRowsWithoutActs();
        noneBehindTheLast();
        placeEnds();
        placeMissing();
        atEnds();
        groupEnds();
        groupsOfOneField();
        groupsOfAll();
        narrowEnds();
        narrowBits();
        DUE.end();
    }

    private static void refusals(String name, Consumer<StepStore> state) {
        DUE.promise(14);
        Twins.outside(DUE, name + ": pack", state, 0, 11, -3, v -> x -> x.pack(v));
        DUE.promise(15);
        Twins.outside(DUE, name + ": word in", state, 0, 11, -3, v -> x -> x.word(v, 0));
        Twins.outside(DUE, name + ": word in one without acts", state, 0, -1, -3, v -> x -> x.word(States.EMPTY, v));
        DUE.promise(16);
        Twins.outside(DUE, name + ": why in", state, 0, 11, -3, v -> x -> x.why(v, 0));
        Twins.outside(DUE, name + ": why in one without acts", state, 0, -1, -3, v -> x -> x.why(States.EMPTY, v));
        DUE.promise(18);
        Twins.outside(DUE, name + ": place in", state, 0, 11, -3, v -> x -> x.place(v, 0));
        Twins.outside(DUE, name + ": place in, WORD beyond too", state, 0, 11, -3, v -> x -> x.place(v, -1));
        DUE.promise(20);
        Twins.outside(DUE, name + ": group", state, 0, 6, -3, v -> x -> x.group(v));
    }

    private static void packOfNoActs(String name, Consumer<StepStore> state) {
        DUE.promise(14);
        Twins.taken(DUE, name + ": pack of no acts", state, x -> x.pack(States.EMPTY), 0);
        StepStore x = new StepStore();
        state.accept(x);
        x.pack(States.EMPTY);
        DUE.is(name + ": packed, it has no act's word", x.word(States.EMPTY, 0), -3);
        DUE.is(name + ": packed again", x.pack(States.EMPTY), 0);
    }

    private static void packEnds() {
        for (int instruction : new int[] {0, 11}) {
            Consumer<StepStore> state = x -> x.act(instruction, 0, 0, 0, 0);
            Twins.taken(DUE, "pack(" + instruction + ")", state, x -> x.pack(instruction), 1);
        }
        StepStore x = new StepStore();
        for (int i = 0; i < 10; i++) {
            x.act(11, 0, 0, i, 0);
        }
        DUE.is("ten, each later", x.pack(11), 10);
        for (int i = 0; i < 10; i++) {
            DUE.is("word of " + i, x.word(11, i), i);
        }
    }

    /** Acts of the kinds 0 and 1 that need nothing of one another: as many in a word as there are buses. */
    private static void busesOfAWord() {
        for (int buses = 1; buses <= 3; buses++) {
            for (int acts = 1; acts <= 8; acts++) {
                StepStore x = new StepStore();
                x.buses(buses);
                for (int i = 0; i < acts; i++) {
                    x.act(0, i % 2, i, i, 0);
                }
                int words = (acts + buses - 1) / buses;
                DUE.is(acts + " on " + buses + " buses", x.pack(0), words);
                int[] has = new int[words];
                for (int i = 0; i < acts; i++) {
                    has[x.word(0, i)]++;
                }
                for (int w = 0; w < words; w++) {
                    DUE.holds("word " + w + " has no more than " + buses + ", it has " + has[w], has[w] <= buses);
                }
            }
        }
    }

    private static void onePartEach() {
        for (int acts = 1; acts <= 8; acts++) {
            StepStore x = new StepStore();
            x.buses(3);
            for (int i = 0; i < acts; i++) {
                x.act(0, 6, i, i, 0);
            }
            DUE.is(acts + " on one shifter", x.pack(0), acts);
        }
        for (int kind = 2; kind <= 5; kind++) {
            StepStore x = new StepStore();
            x.act(0, 2, 0, 1, 2);
            x.act(0, kind, 3, 4, 5);
            DUE.is("2 and " + kind + " on one worker", x.pack(0), 2);
        }
        int[][] ports = {{7, 7}, {7, 8}, {8, 7}, {8, 8}};
        for (int[] kinds : ports) {
            StepStore x = new StepStore();
            x.act(0, kinds[0], 0, 1, 2);
            x.act(0, kinds[1], 3, 4, 5);
            DUE.is(kinds[0] + " and " + kinds[1] + " on one port", x.pack(0), 2);
        }
        StepStore x = new StepStore();
        x.act(0, 10, 0, 0, 0);
        x.act(0, 9, 0, 1, 0);
        DUE.is("the needs would let them meet", x.needs(0, 0, 1), 1);
        DUE.is("the tester does not", x.pack(0), 2);
        DUE.is("no act is why", x.why(0, 1), -1);
    }

    private static void threeBuses(StepStore x, int instruction) {
        x.act(instruction, 0, 0, 9, 0);
        x.act(instruction, 1, 1, 7, 0);
        x.act(instruction, 0, 2, 9, 0);
    }

    private static void withWorker(StepStore x, int instruction) {
        threeBuses(x, instruction);
        x.act(instruction, 2, 3, 7, 7);
        x.act(instruction, 6, 4, 7, 1);
        x.act(instruction, 7, 5, 7, 0);
    }

    private static void withTester(StepStore x, int instruction) {
        threeBuses(x, instruction);
        x.act(instruction, 6, 4, 7, 1);
        x.act(instruction, 7, 5, 7, 0);
        x.act(instruction, 9, 0, 0, 0);
    }

    private static void theMostOfAWord() {
        StepStore x = new StepStore();
        withWorker(x, 0);
        withTester(x, 1);
        for (int buses = 1; buses <= 3; buses++) {
            x.buses(buses);
            DUE.is("with a worker, buses " + buses, x.pack(0), new int[] {3, 2, 1}[buses - 1]);
            DUE.is("with a tester, buses " + buses, x.pack(1), new int[] {3, 2, 1}[buses - 1]);
        }
        x.store();
        DUE.is("six in a word", x.at(0, 0), 6);
        DUE.is("six in the other", x.at(1, 0), 6);
    }

    private static void wordEnds() {
        DUE.promise(15);
        Twins.outside(DUE, "word of act, packed,", States::rows, 0, 2, -3, v -> x -> x.word(States.PACKED, v));
        Twins.outside(DUE, "word of act of a full one", States::whole, 0, 9, -3, v -> x -> x.word(States.FULL, v));
        // Each of the five words has to have one of the five acts of the SHIFTER.
        int[] wanted = {1, 0, 2, 1, 4, 2, 2, 3, 3, 4};
        for (int i = 0; i < 10; i++) {
            int act = i;
            Twins.taken(DUE, "word(11, " + i + ")", States::whole, x -> x.word(States.FULL, act), wanted[i]);
        }
        Twins.taken(DUE, "word in the first row", States::whole, x -> x.word(0, 1), 1);
    }

    private static void wordMissing() {
        Twins.refused(DUE, "word, not packed", States::rows, x -> x.word(States.UNPACKED, 0), -2);
        Twins.refused(DUE, "word of the last, not packed", States::rows, x -> x.word(States.UNPACKED, 1), -2);
        Twins.outside(DUE, "BEYOND ahead of MISSING, word", States::rows, 0, 1, -3, v -> x -> x.word(States.UNPACKED, v));
        DUE.promise(16);
        Twins.refused(DUE, "why, not packed", States::rows, x -> x.why(States.UNPACKED, 0), -2);
        Twins.refused(DUE, "why of the last, not packed", States::rows, x -> x.why(States.UNPACKED, 1), -2);
        Twins.outside(DUE, "BEYOND ahead of MISSING, why", States::rows, 0, 1, -3, v -> x -> x.why(States.UNPACKED, v));
    }

    private static void whyEnds() {
        DUE.promise(16);
        Twins.outside(DUE, "why of act, packed,", States::rows, 0, 2, -3, v -> x -> x.why(States.PACKED, v));
        Twins.outside(DUE, "why of act of a full one", States::whole, 0, 9, -3, v -> x -> x.why(States.FULL, v));
        for (int instruction : new int[] {0, 1, States.PACKED, States.UNPACKED, States.FULL}) {
            Twins.taken(DUE, "the first act has none before it", States::whole, x -> x.why(instruction, 0), -1);
        }
        Twins.taken(DUE, "why in the first row", States::whole, x -> x.why(0, 1), 0);
        StepStore x = new StepStore();
        for (int i = 0; i < 10; i++) {
            x.act(11, 0, 0, i, 0);
        }
        x.pack(11);
        DUE.is("the last of ten: not the least it needs, the least just so", x.why(11, 9), 8);
        StepStore y = new StepStore();
        y.act(0, 6, 1, 1, 0);
        y.act(0, 0, 1, 5, 0);
        y.act(0, 6, 2, 1, 0);
        y.act(0, 6, 3, 1, 0);
        y.pack(0);
        DUE.is("two words later than it needs", y.word(0, 3), 3);
        DUE.is("is held by none", y.why(0, 3), -1);
    }

    private static void storeOfNothing() {
        DUE.promise(17);
        Consumer<StepStore> state = x -> x.store();
        Twins.taken(DUE, "store() of nothing", States::nothing, x -> x.store(), 0);
        Twins.taken(DUE, "store() of nothing again", state, x -> x.store(), 0);
        DUE.promise(18);
        Twins.refused(DUE, "it is there, and has no place 0", state, x -> x.place(0, 0), -3);
        DUE.promise(19);
        Twins.refused(DUE, "it is there, and has no place 0", state, x -> x.at(0, 0), -3);
        DUE.promise(20);
        for (int field = 0; field < 7; field++) {
            int f = field;
            Twins.taken(DUE, "no field has a group", state, x -> x.group(f), -1);
        }
        DUE.promise(21);
        for (int what = 0; what < 4; what++) {
            int w = what;
            Twins.taken(DUE, "nothing is 0 bits", state, x -> x.narrow(w), 0);
        }
    }

    private static void fill(StepStore x, int acts) {
        for (int i = 0; i < acts; i++) {
            x.act(i / 10, 0, i % 8, i, 0);
        }
    }

    private static void storeFull() {
        DUE.promise(17);
        StepStore x = new StepStore();
        fill(x, 120);
        DUE.is("as many places as there can be", x.store(), 120);
        DUE.is("each from its last word: the first row's", x.place(0, 9), 0);
        DUE.is("the first row's first", x.place(0, 0), 9);
        DUE.is("the last row's last", x.place(11, 9), 110);
        DUE.is("the last row's first", x.place(11, 0), 119);
        DUE.promise(19);
        DUE.is("the last place goes on", x.at(119, 1), 118);
        DUE.is("the last of a row does not", x.at(110, 1), -1);
        DUE.is("one beyond", x.at(120, 0), -3);
        DUE.promise(21);
        DUE.is("121 ways twice", x.narrow(0), 14);
        DUE.is("of all", x.narrow(1), 14 * 120);
        DUE.is("120 acts", x.narrow(3), 120);
        StepStore y = new StepStore();
        for (int instruction = 0; instruction < 12; instruction++) {
            for (int i = 0; i < 10; i++) {
                y.act(instruction, 0, 0, i, 0);
            }
        }
        DUE.promise(17);
        DUE.is("twelve that are alike", y.store(), 10);
        DUE.promise(19);
        DUE.is("all twelve have the first place", y.at(0, 2), 12);
        DUE.is("all twelve have the last place", y.at(9, 2), 12);
    }

    private static void storeOfRowsWithoutActs() {
        DUE.promise(17);
        StepStore x = new StepStore();
        x.act(5, 0, 0, 0, 0);
        DUE.is("eleven have none", x.store(), 1);
        for (int instruction = 0; instruction < 12; instruction++) {
            DUE.is("place(" + instruction + ", 0)", x.place(instruction, 0), instruction == 5 ? 0 : -3);
        }
        DUE.is("one has it", x.at(0, 2), 1);
        x.clear(5);
        DUE.is("none is left", x.store(), 0);
        DUE.is("no place", x.at(0, 0), -3);
    }

    private static void noneBehindTheLast() {
        StepStore x = new StepStore();
        x.act(0, 0, 1, 1, 0);
        x.act(1, 0, 1, 1, 0);
        x.act(1, 0, 2, 2, 0);
        x.act(2, 0, 2, 2, 0);
        x.act(2, 0, 1, 1, 0);
        DUE.is("the same acts, none behind or one behind", x.store(), 4);
        int[][] places = {{0, 0, 0}, {1, 1, 1}, {1, 0, 2}, {2, 1, 0}, {2, 0, 3}};
        for (int[] p : places) {
            DUE.is("place(" + p[0] + ", " + p[1] + ")", x.place(p[0], p[1]), p[2]);
        }
        DUE.promise(19);
        int[] nexts = {-1, -1, 1, 0};
        int[] users = {2, 1, 1, 1};
        for (int place = 0; place < 4; place++) {
            DUE.is("behind " + place, x.at(place, 1), nexts[place]);
            DUE.is("have " + place, x.at(place, 2), users[place]);
        }
        StepStore y = new StepStore();
        y.act(0, 0, 1, 1, 0);
        y.act(0, 0, 1, 1, 0);
        DUE.promise(17);
        DUE.is("the same acts twice in a row are two places", y.store(), 2);
        DUE.is("the first goes on to the last", y.at(1, 1), 0);
        DUE.is("none behind the last", y.at(0, 1), -1);
    }

    private static void placeEnds() {
        DUE.promise(18);
        Twins.outside(DUE, "place of WORD", States::whole, 0, 1, -3, v -> x -> x.place(0, v));
        Twins.outside(DUE, "place of WORD of the last row", States::whole, 0, 4, -3, v -> x -> x.place(States.FULL, v));
        Twins.outside(DUE, "place without acts", States::whole, 0, -1, -3, v -> x -> x.place(States.EMPTY, v));
        Twins.taken(DUE, "place of WORD 0", States::whole, x -> x.place(0, 0), 1);
        Twins.taken(DUE, "place of the last WORD", States::whole, x -> x.place(0, 1), 0);
        StepStore x = new StepStore();
        withWorker(x, 0);
        x.buses(3);
        x.store();
        DUE.is("six acts, one word", x.place(0, 0), 0);
        DUE.is("acts are not words", x.place(0, 1), -3);
    }

    private static void placeMissing() {
        for (int v : new int[] {Integer.MIN_VALUE, -1, 0, 1, 2, 99, Integer.MAX_VALUE}) {
            Twins.refused(DUE, "MISSING ahead of BEYOND (WORD) " + v, States::rows, x -> x.place(0, v), -2);
            Twins.refused(DUE, "MISSING ahead of BEYOND (WORD) " + v, States::rows, x -> x.place(States.EMPTY, v), -2);
            Twins.refused(DUE, "MISSING, though packed, WORD " + v, States::rows, x -> x.place(States.PACKED, v), -2);
            Twins.refused(DUE, "MISSING in the last row, WORD " + v, States::rows, x -> x.place(11, v), -2);
        }
    }

    private static void atEnds() {
        DUE.promise(19);
        for (int v : new int[] {Integer.MIN_VALUE, -1, 0, 9, Integer.MAX_VALUE}) {
            Twins.refused(DUE, "MISSING ahead of all: at(" + v + ", 0)", States::rows, x -> x.at(v, 0), -2);
            Twins.refused(DUE, "MISSING ahead of all: at(0, " + v + ")", States::rows, x -> x.at(0, v), -2);
            Twins.refused(DUE, "MISSING ahead of all: at(-1, " + v + ")", States::nothing, x -> x.at(-1, v), -2);
        }
        StepStore x = new StepStore();
        States.whole(x);
        int last = x.store() - 1;
        Twins.outside(DUE, "at place", States::whole, 0, last, -3, v -> y -> y.at(v, 0));
        Twins.outside(DUE, "BEYOND ahead of NO, at place", States::whole, 0, last, -3, v -> y -> y.at(v, 3));
        Twins.outside(DUE, "at place 0 for", States::whole, 0, 2, -6, v -> y -> y.at(0, v));
        Twins.outside(DUE, "at the last place for", States::whole, 0, 2, -6, v -> y -> y.at(last, v));
        Twins.taken(DUE, "at(0, 0)", States::whole, y -> y.at(0, 0), 1);
        Twins.taken(DUE, "NONE is no refusal", States::whole, y -> y.at(0, 1), -1);
        Twins.taken(DUE, "at(0, 2)", States::whole, y -> y.at(0, 2), 2);
        Twins.taken(DUE, "at(last, 0)", States::whole, y -> y.at(last, 0), 1);
        Twins.taken(DUE, "at(last, 1)", States::whole, y -> y.at(last, 1), last - 1);
        Twins.taken(DUE, "at(last, 2)", States::whole, y -> y.at(last, 2), 1);
    }

    private static void groupEnds() {
        DUE.promise(20);
        for (int field = 0; field <= 6; field++) {
            int f = field;
            Twins.refused(DUE, "MISSING: group(" + f + ")", States::nothing, x -> x.group(f), -2);
            Twins.refused(DUE, "MISSING: group(" + f + ")", States::rows, x -> x.group(f), -2);
        }
        int[] wanted = {0, 1, -1, 0, 2, 0, 3};
        Consumer<StepStore> state = x -> {
            x.buses(2);
            x.act(0, 0, 1, 1, 0);
            x.act(0, 1, 2, 7, 0);
            x.act(0, 6, 3, 7, 0);
            x.act(0, 9, 0, 0, 0);
            x.act(1, 2, 0, 0, 0);
            x.act(2, 7, 0, 0, 0);
            x.store();
        };
        for (int field = 0; field <= 6; field++) {
            int f = field;
            Twins.taken(DUE, "group(" + f + ")", state, x -> x.group(f), wanted[f]);
        }
    }

    /** One field alone has acts: it is group 0, and those without acts are left out. */
    private static void groupsOfOneField() {
        int[] kinds = {0, 2, 6, 7, 9};
        int[] fields = {0, 3, 4, 5, 6};
        for (int k = 0; k < kinds.length; k++) {
            StepStore x = new StepStore();
            x.buses(3);
            x.act(0, kinds[k], 0, 0, 0);
            x.store();
            for (int field = 0; field < 7; field++) {
                DUE.is("kind " + kinds[k] + " alone: group(" + field + ")", x.group(field), field == fields[k] ? 0 : -1);
            }
            DUE.is("one group", x.narrow(2), 1);
            DUE.is("one act", x.narrow(3), 1);
            DUE.is("two ways, and two next places", x.narrow(0), 2);
        }
        StepStore y = new StepStore();
        for (int k = 0; k < kinds.length; k++) {
            y.act(k, kinds[k], 0, 0, 0);
        }
        y.store();
        for (int field : fields) {
            DUE.is("fields that never meet share", y.group(field), 0);
        }
        DUE.is("one group for all", y.narrow(2), 1);
        DUE.is("six ways, and six next places", y.narrow(0), 6);
    }

    private static void groupsOfAll() {
        StepStore x = new StepStore();
        x.buses(3);
        withWorker(x, 0);
        x.store();
        int[] wanted = {0, 1, 2, 3, 4, 5, -1};
        for (int field = 0; field < 7; field++) {
            DUE.is("all but the tester meet: group(" + field + ")", x.group(field), wanted[field]);
        }
        withTester(x, 1);
        x.store();
        DUE.is("the tester meets all but the worker", x.group(6), 3);
        DUE.is("six groups", x.narrow(2), 6);
        DUE.is("the acts of both rows are the same but for two", x.narrow(3), 7);
        DUE.is("three ways of group 3, two of the others; three next places", x.narrow(0), 5 + 2 + 2);
    }

    private static void narrowEnds() {
        DUE.promise(21);
        for (int v : new int[] {Integer.MIN_VALUE, -1, 0, 3, 4, Integer.MAX_VALUE}) {
            Twins.refused(DUE, "MISSING ahead of NO: narrow(" + v + ")", States::nothing, x -> x.narrow(v), -2);
            Twins.refused(DUE, "MISSING ahead of NO: narrow(" + v + ")", States::rows, x -> x.narrow(v), -2);
        }
        Twins.outside(DUE, "narrow", States::whole, 0, 3, -6, v -> x -> x.narrow(v));
        Twins.outside(DUE, "narrow of nothing", x -> x.store(), 0, 3, -6, v -> x -> x.narrow(v));
        Consumer<StepStore> state = x -> {
            x.act(0, 0, 0, 0, 0);
            x.act(0, 0, 1, 0, 0);
            x.store();
        };
        int[] wanted = {4, 8, 1, 2};
        for (int what = 0; what <= 3; what++) {
            int w = what;
            Twins.taken(DUE, "narrow(" + w + ")", state, x -> x.narrow(w), wanted[w]);
        }
    }

    private static int bits(int ways) {
        return 32 - Integer.numberOfLeadingZeros(ways - 1);
    }

    private static void narrowBits() {
        for (int acts : new int[] {1, 2, 3, 4, 6, 7, 8, 9, 14, 15, 16, 17, 30, 31, 32, 62, 63, 64, 65, 119, 120}) {
            StepStore x = new StepStore();
            fill(x, acts);
            x.store();
            DUE.is(acts + " acts and places", x.narrow(0), 2 * bits(acts + 1));
            DUE.is(acts + " acts and places, all bits", x.narrow(1), 2 * bits(acts + 1) * acts);
            DUE.is(acts + " acts", x.narrow(3), acts);
        }
        for (int places = 1; places <= 10; places++) {
            StepStore x = new StepStore();
            for (int i = 0; i < places; i++) {
                x.act(0, 0, 0, 0, 0);
            }
            x.store();
            DUE.is("one act, " + places + " places", x.narrow(0), 1 + bits(places + 1));
            DUE.is("one act, " + places + " places, all bits", x.narrow(1), places * (1 + bits(places + 1)));
            DUE.is("one act", x.narrow(3), 1);
        }
        StepStore x = new StepStore();
        x.buses(3);
        threeBuses(x, 0);
        DUE.is("one place", x.store(), 1);
        DUE.is("three groups of one act", x.narrow(0), 3 + 1);
        x.act(1, 0, 2, 9, 0);
        x.store();
        DUE.is("the same act in another field is another one", x.narrow(3), 4);
        DUE.is("three ways of BUS 0", x.narrow(0), 2 + 1 + 1 + 2);
    }
}
