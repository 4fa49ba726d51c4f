/** Promises 14 to 21: packing, words, THE STORE and its fields. */
public final class WordsTest {
    private static final Due DUE = new Due("WordsTest");

    public static void main(String[] args) {
        pack();
        packChoosesTheLeast();
        packRefused();
        word();
        why();
        store();
        storeComparesActs();
        place();
        at();
        group();
        narrow();
        takenAway();
        DUE.end();
    }

    private static void words(String what, StepStore x, int instruction, int... want) {
        for (int i = 0; i < want.length; i++) {
            DUE.is(what + ": word(" + instruction + ", " + i + ")", x.word(instruction, i), want[i]);
        }
    }

    private static void pack() {
        DUE.promise(14);
        StepStore x = new StepStore();
        DUE.is("no acts", x.pack(3), 0);
        x.act(0, 1, 1, 0, 0);
        x.act(0, 0, 0, 9, 0);
        DUE.is("one bus for two", x.pack(0), 2);
        x.act(1, 6, 1, 0, 2);
        x.act(1, 0, 0, 9, 0);
        DUE.is("reading beside writing", x.pack(1), 1);
        x.act(2, 6, 1, 0, 2);
        x.act(2, 6, 2, 0, 2);
        DUE.is("one shifter", x.pack(2), 2);
        x.act(4, 7, 1, 0, 0);
        x.act(4, 9, 0, 0, 0);
        DUE.is("a skip beside what can trap", x.pack(4), 1);
        x.act(5, 10, 0, 0, 0);
        x.act(5, 9, 0, 0, 0);
        DUE.is("one tester", x.pack(5), 2);
        for (int i = 0; i < 10; i++) {
            x.act(6, 0, i % 8, i, 0);
        }
        DUE.is("ten on one bus", x.pack(6), 10);
        x.buses(3);
        DUE.is("ten on three buses", x.pack(6), 4);
    }

    private static void packChoosesTheLeast() {
        StepStore x = new StepStore();
        // MOVE first would need three words.
        x.act(0, 1, 4, 5, 0);
        x.act(0, 0, 1, 3, 0);
        x.act(0, 2, 2, 2, 1);
        DUE.is("pack", x.pack(0), 2);
        words("as few as can be", x, 0, 1, 0, 1);
        // WORD 0 is the least as a number, though both sets would do.
        x.act(1, 0, 1, 3, 0);
        x.act(1, 6, 2, 3, 1);
        x.act(1, 0, 4, 3, 0);
        DUE.is("pack", x.pack(1), 2);
        words("the least number", x, 1, 0, 1, 1);
        x.act(2, 0, 1, 3, 0);
        x.act(2, 0, 2, 3, 0);
        x.act(2, 6, 3, 2, 1);
        x.act(2, 6, 5, 1, 1);
        x.buses(2);
        DUE.is("pack", x.pack(2), 3);
        words("one of two that wait", x, 2, 0, 1, 2, 1);
    }

    private static void packRefused() {
        StepStore x = new StepStore();
        DUE.is("pack(12)", x.pack(12), -3);
        DUE.is("pack(-1)", x.pack(-1), -3);
        DUE.is("status -3", x.status(-3), 2);
    }

    private static void word() {
        DUE.promise(15);
        StepStore x = new StepStore();
        x.act(0, 0, 1, 5, 0);
        DUE.is("not packed", x.word(0, 0), -2);
        DUE.is("BEYOND ahead of MISSING", x.word(0, 1), -3);
        DUE.is("word(12, 0)", x.word(12, 0), -3);
        DUE.is("word(-1, 0)", x.word(-1, 0), -3);
        DUE.is("word(0, -1)", x.word(0, -1), -3);
        x.pack(0);
        DUE.is("packed", x.word(0, 0), 0);
        DUE.is("one beyond", x.word(0, 1), -3);
        x.act(0, 1, 2, 1, 0);
        DUE.is("an act more takes it away", x.word(0, 0), -2);
        x.run(0, false);
        DUE.is("PLAIN does not pack", x.word(0, 0), -2);
        x.run(0, true);
        DUE.is("by words it is packed", x.word(0, 1), 1);
        DUE.is("refused acts", x.act(0, 11, 0, 0, 0), -6);
        DUE.is("take nothing away", x.word(0, 1), 1);
        DUE.is("status -2", x.status(-2), 3);
        DUE.is("status -3", x.status(-3), 5);
    }

    private static void why() {
        DUE.promise(16);
        StepStore x = new StepStore();
        x.act(0, 6, 1, 0, 1);
        x.act(0, 0, 0, 7, 0);
        x.act(0, 0, 3, 7, 0);
        x.act(0, 1, 4, 3, 0);
        x.act(0, 9, 0, 0, 1);
        x.act(0, 0, 5, 1, 0);
        DUE.is("not packed", x.why(0, 0), -2);
        DUE.is("pack", x.pack(0), 4);
        words("before why", x, 0, 0, 0, 1, 2, 2, 3);
        DUE.is("the first one", x.why(0, 0), -1);
        DUE.is("the same word, for what was read", x.why(0, 1), 0);
        DUE.is("the bus alone: none", x.why(0, 2), -1);
        DUE.is("a word later", x.why(0, 3), 2);
        DUE.is("a skip, in the same word", x.why(0, 4), 3);
        DUE.is("behind a skip", x.why(0, 5), 4);
        x.act(1, 0, 1, 1, 0);
        x.act(1, 6, 2, 3, 0);
        x.act(1, 2, 4, 1, 2);
        x.pack(1);
        DUE.is("the least of two", x.why(1, 2), 0);
        DUE.is("why(12, 0)", x.why(12, 0), -3);
        DUE.is("why(-1, 0)", x.why(-1, 0), -3);
        DUE.is("why(1, 3)", x.why(1, 3), -3);
        DUE.is("why(1, -1)", x.why(1, -1), -3);
        DUE.is("status -2", x.status(-2), 1);
        DUE.is("status -3", x.status(-3), 4);
    }

    private static StepStore shared() {
        StepStore x = new StepStore();
        x.act(0, 0, 1, 3, 50);
        x.act(0, 2, 2, 2, 1);
        x.act(4, 10, 9, 0, 0);
        x.act(4, 0, 1, 3, 60);
        x.act(4, 2, 2, 2, 1);
        x.act(7, 0, 1, 3, 0);
        return x;
    }

    private static void store() {
        DUE.promise(17);
        DUE.is("of nothing", new StepStore().store(), 0);
        StepStore x = shared();
        DUE.is("ends that are alike", x.store(), 4);
        DUE.is("again", x.store(), 4);
        words("all are packed then", x, 4, 0, 1, 2);
        words("all are packed then", x, 7, 0);
        x.act(11, 10, 3, 0, 0);
        x.act(11, 0, 1, 3, 0);
        x.act(11, 2, 2, 2, 1);
        DUE.is("the whole row is there", x.store(), 4);
        StepStore y = new StepStore();
        for (int i = 0; i < 12; i++) {
            for (int k = 0; k < 10; k++) {
                y.act(i, 0, k % 8, i * 10 + k, 0);
            }
        }
        DUE.is("as many as there can be", y.store(), 120);
    }

    private static void storeComparesActs() {
        StepStore x = new StepStore();
        x.buses(2);
        x.act(0, 0, 1, 1, 0);
        x.act(0, 0, 2, 2, 0);
        x.act(1, 0, 2, 2, 0);
        x.act(1, 0, 1, 1, 0);
        DUE.is("another order", x.store(), 2);
        x.act(2, 0, 1, 1, 7);
        x.act(2, 0, 2, 2, 7);
        DUE.is("what a kind has not", x.store(), 2);
        x.act(3, 0, 1, 1, 0);
        x.act(3, 0, 2, 3, 0);
        DUE.is("another x", x.store(), 3);
        x.act(4, 6, 1, 2, 3);
        x.act(5, 6, 1, 2, -3);
        DUE.is("another y", x.store(), 5);
        x.act(6, 2, 1, 2, 3);
        x.act(7, 3, 1, 2, 3);
        DUE.is("another kind", x.store(), 7);
        x.act(8, 2, 2, 2, 3);
        DUE.is("another d", x.store(), 8);
        x.act(9, 2, 2, 2, 3);
        x.act(9, 0, 1, 1, 0);
        DUE.is("more acts in the word", x.store(), 9);
        x.act(10, 1, 7, 7, 0);
        x.act(10, 6, 1, 2, 3);
        x.act(10, 0, 1, 1, 0);
        x.act(10, 0, 2, 2, 0);
        DUE.is("acts that lie elsewhere in their row", x.store(), 10);
        DUE.is("share", x.place(10, 1), x.place(0, 0));
    }

    private static void place() {
        DUE.promise(18);
        StepStore x = shared();
        DUE.is("no THE STORE", x.place(0, 0), -2);
        DUE.is("BEYOND ahead of MISSING", x.place(12, 0), -3);
        DUE.is("place(-1, 0)", x.place(-1, 0), -3);
        DUE.is("MISSING ahead of the WORD", x.place(0, 99), -2);
        x.store();
        DUE.is("place(0, 1)", x.place(0, 1), 0);
        DUE.is("place(0, 0)", x.place(0, 0), 1);
        DUE.is("place(4, 2)", x.place(4, 2), 0);
        DUE.is("place(4, 1)", x.place(4, 1), 1);
        DUE.is("place(4, 0)", x.place(4, 0), 2);
        DUE.is("place(7, 0)", x.place(7, 0), 3);
        DUE.is("place(0, 2)", x.place(0, 2), -3);
        DUE.is("place(0, -1)", x.place(0, -1), -3);
        DUE.is("place(1, 0)", x.place(1, 0), -3);
        DUE.is("status -2", x.status(-2), 2);
        DUE.is("status -3", x.status(-3), 5);
    }

    private static void at() {
        DUE.promise(19);
        StepStore x = shared();
        x.act(9, 0, 5, 5, 0);
        x.act(9, 6, 6, 6, 6);
        DUE.is("MISSING ahead of all", x.at(-1, 9), -2);
        x.store();
        int[][] wanted = {{1, -1, 2}, {1, 0, 2}, {1, 1, 1}, {1, -1, 1}, {2, -1, 1}};
        for (int place = 0; place < 5; place++) {
            for (int what = 0; what < 3; what++) {
                DUE.is("at(" + place + ", " + what + ")", x.at(place, what), wanted[place][what]);
            }
        }
        DUE.is("BEYOND ahead of NO", x.at(5, 3), -3);
        DUE.is("at(-1, 0)", x.at(-1, 0), -3);
        DUE.is("at(0, 3)", x.at(0, 3), -6);
        DUE.is("at(0, -1)", x.at(0, -1), -6);
        x.act(9, 0, 5, 5, 0);
        x.clear(4);
        x.store();
        DUE.is("counted anew", x.at(0, 2), 1);
        DUE.is("status -2", x.status(-2), 1);
        DUE.is("status -3", x.status(-3), 2);
        DUE.is("status -6", x.status(-6), 2);
    }

    private static StepStore meeting() {
        StepStore x = new StepStore();
        x.buses(3);
        x.act(0, 0, 0, 1, 0);
        x.act(0, 6, 1, 2, 3);
        x.act(1, 2, 0, 1, 2);
        x.act(2, 7, 0, 1, 0);
        x.act(3, 0, 3, 1, 0);
        x.act(3, 0, 4, 1, 0);
        x.act(3, 0, 5, 1, 0);
        x.act(4, 10, 0, 0, 0);
        x.act(5, 0, 2, 8, 0);
        x.act(5, 10, 0, 1, 0);
        x.act(6, 6, 2, 2, 2);
        x.act(6, 2, 3, 4, 5);
        return x;
    }

    private static void group() {
        DUE.promise(20);
        StepStore x = meeting();
        DUE.is("no THE STORE", x.group(0), -2);
        DUE.is("BEYOND ahead of MISSING", x.group(7), -3);
        DUE.is("group(-1)", x.group(-1), -3);
        x.store();
        // BUS 0 meets BUS 1, BUS 2, SHIFTER, TESTER; WORKER meets SHIFTER.
        int[] wanted = {0, 1, 2, 0, 1, 0, 1};
        for (int field = 0; field < 7; field++) {
            DUE.is("group(" + field + ")", x.group(field), wanted[field]);
        }
        DUE.is("group(7)", x.group(7), -3);
        x.clear(2);
        x.store();
        DUE.is("no acts", x.group(5), -1);
        DUE.is("status -2", x.status(-2), 1);
        DUE.is("status -3", x.status(-3), 3);
    }

    private static void narrow() {
        DUE.promise(21);
        StepStore x = meeting();
        DUE.is("MISSING ahead of NO", x.narrow(9), -2);
        DUE.is("places", x.store(), 7);
        // Group 0: BUS 0 (3 acts), WORKER (2), PORT (1): 7 ways. 1: BUS 1 (1), SHIFTER (2), TESTER (2):
        // 6 ways. 2: BUS 2 (1): 2 ways. A next place: 8 ways.
        DUE.is("bits of a word", x.narrow(0), 3 + 3 + 1 + 3);
        DUE.is("bits of all", x.narrow(1), 70);
        DUE.is("groups", x.narrow(2), 3);
        DUE.is("different acts", x.narrow(3), 12);
        x.act(10, 0, 7, 7, 0);
        DUE.is("places", x.store(), 8);
        DUE.is("a place and an act more", x.narrow(0), 3 + 3 + 1 + 4);
        x.act(11, 0, 7, 8, 0);
        x.store();
        DUE.is("nine ways in group 0", x.narrow(0), 4 + 3 + 1 + 4);
        x.act(9, 0, 7, 8, 0);
        x.act(9, 2, 7, 7, 7);
        DUE.is("places", x.store(), 11);
        DUE.is("an act that is there is not counted again", x.narrow(3), 15);
        DUE.is("narrow(4)", x.narrow(4), -6);
        DUE.is("narrow(-1)", x.narrow(-1), -6);
        DUE.is("status -2", x.status(-2), 1);
        DUE.is("status -6", x.status(-6), 2);
        StepStore y = new StepStore();
        y.store();
        for (int what = 0; what < 4; what++) {
            DUE.is("of nothing: narrow(" + what + ")", y.narrow(what), 0);
        }
        y.act(0, 0, 0, 0, 0);
        y.store();
        DUE.is("of one act", y.narrow(0), 2);
    }

    private static void takenAway() {
        DUE.promise(17);
        StepStore x = shared();
        x.store();
        x.set(1, 2);
        x.width(1, 3);
        x.run(0, true);
        x.beside(4);
        x.pack(7);
        DUE.is("THE STORE stays", x.at(0, 0), 1);
        x.act(7, 11, 0, 0, 0);
        x.buses(9);
        DUE.is("refused calls take nothing away", x.at(0, 0), 1);
        x.act(7, 0, 0, 0, 0);
        DUE.is("an act takes it away", x.at(0, 0), -2);
        DUE.is("and the words of its row", x.word(7, 0), -2);
        DUE.is("and no others", x.word(4, 2), 2);
        DUE.is("pack brings no THE STORE", x.pack(7), 2);
        DUE.is("it is away", x.group(0), -2);
    }
}
