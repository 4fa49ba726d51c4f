/** The document's Terms, sentence by sentence: THE STORE, FIELDS, NARROW and bits. */
public final class TermsStoreTest {
    private static final Due DUE = new Due("TermsStoreTest");

    public static void main(String[] args) {
        order();
        shared();
        notShared();
        withoutActs();
        fieldsOfBuses();
        fieldsOfParts();
        differentActs();
        meeting();
        groups();
        bitsOfGroups();
        bitsOfTheStore();
        DUE.end();
    }

    private static void places(String what, StepStore x, int instruction, int... due) {
        for (int i = 0; i < due.length; i++) {
            DUE.is(what + ": place(" + instruction + ", " + i + ")", x.place(instruction, i), due[i]);
        }
        DUE.is(what + ": no WORD more", x.place(instruction, due.length), -3);
    }

    private static void at(String what, StepStore x, int place, int... due) {
        for (int k = 0; k < 3; k++) {
            DUE.is(what + ": at(" + place + ", " + k + ")", x.at(place, k), due[k]);
        }
    }

    private static final String STORE = "THE STORE: INSTRUCTIONS by numbers, each from its last WORD to its first one: "
            + "a WORD that has the same ACTS (KINDS, d, x, y, in their order) and goes on to the same place (none behind "
            + "the last one) as one that is there is that one; else it has the next place, from 0";

    private static void order() {
        DUE.sentence(STORE);
        StepStore x = new StepStore();
        Acts.give(x, 11, Acts.set(1, 1));
        Acts.give(x, 2, Acts.set(1, 2), Acts.set(2, 2), Acts.set(3, 2));
        Acts.give(x, 0, Acts.set(1, 3), Acts.set(2, 3));
        DUE.is("places", x.store(), 6);
        places("by numbers, from the last", x, 0, 1, 0);
        places("by numbers, from the last", x, 2, 4, 3, 2);
        places("by numbers, from the last", x, 11, 5);
        at("the last of 0", x, 0, 1, -1, 1);
        at("the first of 0", x, 1, 1, 0, 1);
        at("the first of 2", x, 4, 1, 3, 1);
        at("the one of 11", x, 5, 1, -1, 1);
    }

    private static void shared() {
        StepStore x = new StepStore();
        int[][] row = {Acts.check(0, 0), Acts.set(1, 3), Acts.add(2, 2, 1), Acts.store(1, 2)};
        Acts.give(x, 0, row[2], row[3]);
        Acts.give(x, 1, row);
        Acts.give(x, 2, row[1], row[2], row[3]);
        Acts.give(x, 3, row);
        Acts.give(x, 4, row[3]);
        DUE.is("places", x.store(), 4);
        places("an end", x, 0, 1, 0);
        places("the whole", x, 1, 3, 2, 1, 0);
        places("an end of it", x, 2, 2, 1, 0);
        places("the same again", x, 3, 3, 2, 1, 0);
        places("the last one alone", x, 4, 0);
        at("of all", x, 0, 1, -1, 5);
        at("of four", x, 1, 1, 0, 4);
        at("of three", x, 2, 1, 1, 3);
        at("of two", x, 3, 1, 2, 2);
    }

    private static void apart(String what, int[][] one, int[][] other, int due) {
        StepStore x = new StepStore();
        x.buses(2);
        Acts.give(x, 3, one);
        Acts.give(x, 8, other);
        DUE.is(what, x.store(), due);
    }

    private static void notShared() {
        int[][] add = {Acts.add(1, 2, 3)};
        apart("the same", add, new int[][] {Acts.add(1, 2, 3)}, 1);
        apart("another KIND", add, new int[][] {{3, 1, 2, 3}}, 2);
        apart("another d", add, new int[][] {Acts.add(2, 2, 3)}, 2);
        apart("another x", add, new int[][] {Acts.add(1, 3, 3)}, 2);
        apart("another y", add, new int[][] {Acts.add(1, 2, 2)}, 2);
        apart("d that a STORE has not", new int[][] {{8, 1, 2, 3}}, new int[][] {{8, 5, 2, 3}}, 1);
        apart("d that a SKIP has not", new int[][] {{9, 1, 0, 1}}, new int[][] {{9, 5, 0, 1}}, 1);
        apart("d that a CHECK has not", new int[][] {{10, 1, 0, 1}}, new int[][] {{10, 5, 0, 1}}, 1);
        for (int kind : new int[] {0, 1, 7}) {
            apart("y that kind " + kind + " has not", new int[][] {{kind, 1, 2, 3}}, new int[][] {{kind, 1, 2, 4}}, 1);
        }
        int[] one = Acts.set(1, 1);
        int[] two = Acts.shift(2, 0, 1);
        apart("the same two", new int[][] {one, two}, new int[][] {one, two}, 1);
        apart("the same two behind others", new int[][] {one, two}, new int[][] {Acts.check(0, 0), one, two}, 2);
        apart("another first of two", new int[][] {one, two}, new int[][] {Acts.set(1, 2), two}, 2);
        apart("another second of two", new int[][] {one, two}, new int[][] {one, Acts.shift(2, 0, 2)}, 2);
        apart("in their order", new int[][] {one, two}, new int[][] {two, one}, 2);
        apart("fewer ACTS", new int[][] {one, two}, new int[][] {one}, 2);
        apart("fewer ACTS, without the first", new int[][] {one, two}, new int[][] {two}, 2);
        apart("going on elsewhere", new int[][] {one, Acts.shift(2, 1, 1)}, new int[][] {one, Acts.shift(2, 1, 2)}, 4);
        apart("going on, or the last", new int[][] {one, Acts.move(2, 1)}, new int[][] {one}, 3);
        apart("a WORD twice in one row", new int[][] {one, one}, new int[][] {one}, 2);
    }

    private static void withoutActs() {
        DUE.sentence("(An INSTRUCTION without ACTS has none.)");
        StepStore x = new StepStore();
        DUE.is("of nothing", x.store(), 0);
        Acts.give(x, 5, Acts.set(1, 1));
        DUE.is("of one", x.store(), 1);
        for (int instruction = 0; instruction < 12; instruction++) {
            DUE.is("place(" + instruction + ", 0)", x.place(instruction, 0), instruction == 5 ? 0 : -3);
        }
        DUE.is("one has it", x.at(0, 2), 1);
    }

    private static void groupsAre(String what, StepStore x, int... due) {
        x.store();
        for (int field = 0; field < 7; field++) {
            DUE.is(what + ": group(" + field + ")", x.group(field), due[field]);
        }
    }

    private static final String FIELDS = "FIELDS: of each BUS (the ACTS of PART 0 in a WORD, by their order, are on BUS 0, "
            + "1, 2), and of each other PART: 0 .. 2 BUSES, 3 WORKER, 4 SHIFTER, 5 PORT, 6 TESTER";

    private static void fieldsOfBuses() {
        DUE.sentence(FIELDS);
        for (int buses = 1; buses <= 3; buses++) {
            StepStore x = Acts.row(Acts.set(1, 1), Acts.shift(4, 0, 1), Acts.move(2, 0), Acts.set(3, 1));
            x.buses(buses);
            groupsAre(buses + " BUSES", x, 0, buses >= 2 ? 1 : -1, buses == 3 ? 2 : -1, -1, buses == 3 ? 3 : buses == 2 ? 2 : 1, -1, -1);
        }
        // SET 1 is first in one word and second in the other: an act of BUS 0 and of BUS 1.
        StepStore x = Acts.row(Acts.set(1, 1), Acts.set(2, 1));
        x.buses(2);
        Acts.give(x, 1, Acts.set(3, 1), Acts.set(1, 1));
        Acts.give(x, 2, Acts.shift(3, 0, 1), Acts.set(1, 1));
        x.store();
        DUE.is("by their order: SET 1, SET 3 on BUS 0, SET 2, SET 1 on BUS 1, SHIFT", x.narrow(3), 5);
    }

    private static void fieldsOfParts() {
        for (int kind = 0; kind <= 10; kind++) {
            StepStore x = new StepStore();
            x.act(0, kind, 1, 0, 0);
            x.store();
            int own = kind <= 1 ? 0 : kind <= 5 ? 3 : kind == 6 ? 4 : kind <= 8 ? 5 : 6;
            for (int field = 0; field < 7; field++) {
                DUE.is("FIELD " + field + " with kind " + kind + " alone", x.group(field), field == own ? 0 : -1);
            }
        }
        DUE.is("no FIELD 7", new StepStore().group(7), -3);
        DUE.is("no FIELD -1", new StepStore().group(-1), -3);
    }

    private static void differentActs() {
        DUE.sentence("ACTS of a FIELD are the different ones (KIND, d, x, y) that stand there in THE STORE");
        StepStore x = new StepStore();
        int[][] acts = {Acts.add(1, 2, 3), Acts.add(1, 2, 3), {3, 1, 2, 3}, Acts.add(2, 2, 3), Acts.add(1, 3, 3),
            Acts.add(1, 2, 4), {8, 1, 2, 3}, {8, 6, 2, 3}, {0, 1, 2, 3}, {0, 1, 2, 4}};
        int[] due = {1, 1, 2, 3, 4, 5, 6, 6, 7, 7};
        for (int i = 0; i < acts.length; i++) {
            // Each at a place of its own, since it goes on to another number.
            Acts.give(x, i, acts[i], Acts.skip(0, 0), Acts.shift(7, 7, i));
            x.store();
            DUE.is("act " + i, x.narrow(3), due[i] + 1 + i + 1);
        }
    }

    private static void meeting() {
        DUE.sentence("Two FIELDS MEET, if in some WORD of THE STORE both have an ACT");
        StepStore x = Acts.row(Acts.add(1, 2, 3), Acts.skip(0, 0), Acts.shift(4, 5, 1));
        groupsAre("in other WORDS they don't", x, -1, -1, -1, 0, 0, -1, 0);
        Acts.give(x, 7, Acts.add(1, 2, 3), Acts.shift(4, 5, 1));
        groupsAre("in some WORD they do", x, -1, -1, -1, 0, 1, -1, 0);
        x.clear(7);
        groupsAre("not any more", x, -1, -1, -1, 0, 0, -1, 0);
    }

    private static void groups() {
        DUE.sentence("NARROW: FIELD by FIELD (those without ACTS left out) goes to the first GROUP in which it MEETS none, "
                + "else to a new one");
        StepStore x = new StepStore();
        Acts.give(x, 0, Acts.set(1, 1), Acts.shift(2, 0, 1));
        groupsAre("two that meet", x, 0, -1, -1, -1, 1, -1, -1);
        Acts.give(x, 1, Acts.shift(2, 0, 1), Acts.fetch(1, 0));
        groupsAre("back to the first", x, 0, -1, -1, -1, 1, 0, -1);
        Acts.give(x, 2, Acts.set(1, 1), Acts.add(2, 0, 0));
        groupsAre("WORKER ahead of SHIFTER", x, 0, -1, -1, 1, 1, 0, -1);
        Acts.give(x, 3, Acts.add(2, 0, 0), Acts.fetch(1, 0));
        groupsAre("PORT meets what is in 1", x, 0, -1, -1, 1, 1, 0, -1);
        Acts.give(x, 4, Acts.set(1, 1), Acts.fetch(3, 0), Acts.skip(0, 0));
        groupsAre("PORT to a new one, TESTER to the first that is free of what it meets", x, 0, -1, -1, 1, 1, 2, 1);
        Acts.give(x, 5, Acts.shift(3, 0, 1), Acts.skip(0, 0));
        groupsAre("TESTER meets SHIFTER too", x, 0, -1, -1, 1, 1, 2, 3);
        DUE.is("GROUPS", x.narrow(2), 4);
        StepStore y = new StepStore();
        Acts.give(y, 0, Acts.set(1, 1), Acts.add(2, 0, 0));
        Acts.give(y, 1, Acts.set(1, 1), Acts.shift(2, 0, 1));
        Acts.give(y, 2, Acts.set(1, 1), Acts.fetch(2, 0));
        Acts.give(y, 3, Acts.add(1, 0, 0), Acts.fetch(2, 0));
        groupsAre("PORT meets WORKER, not SHIFTER, which is in 1 too", y, 0, -1, -1, 1, 1, 2, -1);
    }

    private static int bits(int ways) {
        int bits = 0;
        while (1 << bits < ways) {
            bits++;
        }
        return bits;
    }

    private static void bitsOfGroups() {
        DUE.sentence("A GROUP has as many bits as it needs to tell none, or one ACT of one of its FIELDS");
        StepStore x = new StepStore();
        for (int acts = 1; acts <= 100; acts++) {
            // BUS 0 and SHIFTER never meet, so they share a group.
            if (acts % 2 == 0) {
                x.act((acts - 1) / 10, 0, 0, acts, 0);
            } else {
                x.act((acts - 1) / 10, 6, 0, acts / 16, acts % 16);
            }
            DUE.is("places", x.store(), acts);
            DUE.is("GROUPS", x.narrow(2), 1);
            DUE.is("bits for " + acts + " ACTS and none", x.narrow(0) - bits(acts + 1), bits(acts + 1));
        }
        StepStore y = Acts.row(Acts.set(1, 1), Acts.shift(2, 0, 1));
        y.store();
        DUE.is("each of two GROUPS has its own: 1 + 1, and 1 for a next place", y.narrow(0), 3);
        Acts.give(y, 1, Acts.set(1, 1));
        Acts.give(y, 2, Acts.set(1, 2));
        y.store();
        DUE.is("2 + 1, and 2 for a next place", y.narrow(0), 5);
    }

    private static void bitsOfTheStore() {
        DUE.sentence("Bits of THE STORE: of all GROUPS, and of a next place (0 for none, or a place and 1): as many as it "
                + "needs; together");
        StepStore x = new StepStore();
        x.store();
        DUE.is("no places: bits of a WORD", x.narrow(0), 0);
        DUE.is("no places: bits of all", x.narrow(1), 0);
        for (int places = 1; places <= 120; places++) {
            x.act((places - 1) / 10, 0, 1, 1 + (places - 1) / 10 % 2, 0);
            int all = x.store();
            int acts = x.narrow(3);
            DUE.is("bits of a WORD of " + all, x.narrow(0), bits(acts + 1) + bits(all + 1));
        }
        DUE.is("places", x.store(), 20);
        DUE.is("bits of all", x.narrow(1), 20 * (2 + 5));
    }
}
