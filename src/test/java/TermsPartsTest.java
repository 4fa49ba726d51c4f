import java.util.function.Consumer;

/** The document's Terms, sentence by sentence: 2 PARTS, READS and WRITES, PACKED, DONE BY WORDS. */
public final class TermsPartsTest {
    private static final Due DUE = new Due("TermsPartsTest");

    public static void main(String[] args) {
        parts();
        howManyParts();
        reads();
        cellsAreOneThing();
        writes();
        flagsAreWritten();
        wordsFrom0();
        laterForThings();
        laterThanAll();
        laterForSkips();
        laterForTraps();
        sameOrLater();
        nothing();
        roomOfParts();
        asFewAsCanBe();
        theLeastNumber();
        readThenWrite();
        skips();
        traps();
        DUE.end();
    }

    private static void parts() {
        DUE.sentence("0 BUSES for KINDS 0, 1 (1 .. 3 of them; 1 at first); one each: 1 WORKER for 2 .. 5, "
                + "2 SHIFTER for 6, 3 PORT for 7, 8, 4 TESTER for 9, 10");
        int[] due = {0, 0, 1, 1, 1, 1, 2, 3, 3, 4, 4};
        for (int kind = 0; kind <= 10; kind++) {
            StepStore x = new StepStore();
            x.act(0, kind, 0, 0, 0);
            DUE.is("PART of " + kind, x.look(0, 0, 4), due[kind]);
        }
        StepStore x = new StepStore();
        DUE.is("BUSES at first", x.buses(3), 1);
        DUE.is("BUSES were 3", x.buses(2), 3);
        DUE.is("0 BUSES", x.buses(0), -6);
        DUE.is("4 BUSES", x.buses(4), -6);
        DUE.is("BUSES were 2", x.buses(1), 2);
    }

    /** Two acts that need nothing of one another, or may have one word, are in one word if there are parts. */
    private static void howManyParts() {
        int[][] acts = {Acts.set(1, 5), Acts.move(2, 0), Acts.add(3, 0, 0), Acts.shift(4, 0, 1), Acts.fetch(5, 0),
            Acts.skip(0, 0)};
        int[] part = {0, 0, 1, 2, 3, 4};
        for (int buses = 1; buses <= 3; buses++) {
            for (int a = 0; a < acts.length; a++) {
                for (int b = 0; b < acts.length; b++) {
                    StepStore x = Acts.row(acts[a], acts[b]);
                    x.buses(buses);
                    int due = x.needs(0, 0, 1) == 2 || part[a] == part[b] && (part[a] != 0 || buses < 2) ? 2 : 1;
                    DUE.is(a + ", " + b + " with " + buses, x.pack(0), due);
                }
            }
        }
    }

    private static int needs(int[] a, int[] b) {
        return Acts.row(a, b).needs(0, 0, 1);
    }

    /** Behind SET r an act has to be later if it READS r (its d is 0, and r never is). */
    private static void reads(String what, int[] act, int... registers) {
        for (int r = 1; r < 8; r++) {
            boolean reads = false;
            for (int register : registers) {
                reads |= register == r;
            }
            int otherwise = act[0] == 9 ? 1 : 0;
            DUE.is(what + " behind SET " + r, needs(Acts.set(r, 5), act), reads ? 2 : otherwise);
        }
    }

    private static void reads() {
        DUE.sentence("READS of an ACT: REGISTERS of which it takes the number; CELLS (all as one thing) of 7; FLAG x of 9, 10");
        reads("SET", Acts.set(0, 3));
        for (int a = 1; a < 8; a++) {
            reads("MOVE", Acts.move(0, a), a);
            reads("SHIFT", Acts.shift(0, a, 2), a);
            reads("FETCH", Acts.fetch(0, a), a);
            for (int b = 1; b < 8; b++) {
                for (int kind : new int[] {2, 3, 4, 5, 8}) {
                    reads("kind " + kind, new int[] {kind, 0, a, b}, a, b);
                }
            }
        }
        for (int flag = 0; flag < 2; flag++) {
            reads("SKIP", Acts.skip(flag, 1));
            reads("CHECK", Acts.check(flag, 1));
            DUE.is("SKIP behind ADD", needs(Acts.add(1, 2, 3), Acts.skip(flag, 1)), 2);
            DUE.is("CHECK behind ADD", needs(Acts.add(1, 2, 3), Acts.check(flag, 1)), 2);
        }
    }

    private static void cellsAreOneThing() {
        DUE.is("FETCH behind STORE, though at other cells", needs(Acts.store(1, 2), Acts.fetch(3, 4)), 2);
        StepStore x = Acts.row(Acts.store(1, 2), Acts.fetch(3, 1), Acts.store(1, 3));
        x.set(1, 5);
        x.set(2, 77);
        x.run(0, true);
        DUE.is("FETCH sees what STORE wrote", x.register(3), 77);
    }

    /** Ahead of SET r an act that WRITES r lets it be later, one that READS it lets it be beside. */
    private static void writes() {
        DUE.sentence("WRITES: REGISTER d of 0 .. 7, both FLAGS of 2 .. 5, CELLS of 8");
        for (int kind = 0; kind <= 6; kind++) {
            for (int d = 0; d < 8; d++) {
                for (int r = 0; r < 8; r++) {
                    int x = (d + 1) % 8;
                    boolean reads = kind >= 1 && r == x;
                    int due = r == d ? 2 : reads ? 1 : 0;
                    DUE.is("SET " + r + " behind kind " + kind + " of " + d,
                            needs(new int[] {kind, d, x, kind == 6 ? 3 : x}, Acts.set(r, 1)), due);
                    DUE.is("kind " + kind + " of " + d + " behind SET " + r,
                            needs(Acts.set(r, 1), new int[] {kind, d, x, kind == 6 ? 3 : x}), r == d || reads ? 2 : 0);
                }
            }
        }
        for (int d = 0; d < 8; d++) {
            int x = (d + 1) % 8;
            DUE.is("MOVE behind FETCH of " + d, needs(Acts.fetch(d, x), Acts.move(x, d)), 2);
            DUE.is("FETCH of " + d + " behind SET", needs(Acts.set(d, 1), Acts.fetch(d, x)), 2);
            DUE.is("FETCH of " + d + " behind MOVE", needs(Acts.move(x, d), Acts.fetch(d, d)), 1);
            DUE.is("STORE has no d: " + d, needs(Acts.set(d, 1), new int[] {8, d, x, x}), 0);
        }
        DUE.is("STORE writes, behind CHECK", needs(Acts.check(0, 0), Acts.store(1, 1)), 2);
    }

    private static void flagsAreWritten() {
        for (int kind = 0; kind <= 10; kind++) {
            for (int flag = 0; flag < 2; flag++) {
                int[] act = {kind, 1, 0, 0};
                boolean writes = kind >= 2 && kind <= 5;
                DUE.is("SKIP by " + flag + " behind kind " + kind, needs(act, Acts.skip(flag, 1)), writes || kind == 9 ? 2 : 1);
            }
            DUE.is("ADD behind kind " + kind, needs(new int[] {kind, 1, 2 % (kind > 8 ? 2 : 8), 0}, Acts.add(4, 5, 6)),
                    kind <= 1 || kind == 6 ? 0 : 2);
        }
    }

    private static void words(String what, StepStore x, int... due) {
        int most = -1;
        for (int word : due) {
            most = Math.max(most, word);
        }
        DUE.is(what + ": words", x.pack(0), most + 1);
        for (int i = 0; i < due.length; i++) {
            DUE.is(what + ": word of " + i, x.word(0, i), due[i]);
        }
    }

    private static void wordsFrom0() {
        DUE.sentence("PACKED: each ACT has a WORD, from 0");
        words("one act", Acts.row(Acts.set(1, 1)), 0);
        words("a chain of ten", Acts.row(Acts.set(1, 1), Acts.move(2, 1), Acts.move(3, 2), Acts.move(4, 3), Acts.move(5, 4),
                Acts.move(6, 5), Acts.move(7, 6), Acts.move(0, 7), Acts.move(1, 0), Acts.move(2, 1)),
                0, 1, 2, 3, 4, 5, 6, 7, 8, 9);
    }

    /** What is due of needs() is seen in the words too, where parts would let both acts be in one. */
    private static void pair(String what, int[] a, int[] b, int due) {
        DUE.is(what, needs(a, b), due);
        StepStore x = Acts.row(a, b);
        x.buses(3);
        DUE.is(what + ": words", x.pack(0), due == 2 ? 2 : 1);
        if (due == 2) {
            DUE.is(what + ": a is the first", x.word(0, 0), 0);
        }
    }

    private static void laterForThings() {
        DUE.sentence("For ACTS a, b of a row, a before b: b has a later WORD than a, if a WRITES what b READS or WRITES");
        pair("a WRITES what b READS", Acts.set(1, 5), Acts.shift(2, 1, 1), 2);
        pair("a WRITES the other that b READS", Acts.set(1, 5), Acts.add(2, 3, 1), 2);
        pair("a WRITES what b WRITES", Acts.set(1, 5), Acts.shift(1, 2, 1), 2);
        pair("a WRITES the FLAG that b READS", Acts.add(1, 2, 3), Acts.check(1, 0), 2);
        pair("a WRITES the FLAGS that b WRITES", Acts.add(1, 2, 3), new int[] {5, 4, 5, 6}, 2);
        pair("b WRITES what it READS, a WRITES it", Acts.shift(1, 2, 1), Acts.move(1, 1), 2);
    }

    private static void laterThanAll() {
        words("later than each of two", Acts.row(Acts.set(1, 5), Acts.set(2, 5), Acts.add(3, 1, 2)), 0, 1, 2);
        StepStore x = Acts.row(Acts.set(1, 5), Acts.set(2, 5), Acts.set(3, 5), Acts.fetch(4, 3), Acts.store(2, 1), Acts.add(5, 4, 1));
        x.buses(2);
        words("later than each of many", x, 1, 1, 0, 1, 2, 3);
    }

    private static void laterForSkips() {
        DUE.sentence("or a is a SKIP");
        for (int kind = 0; kind <= 8; kind++) {
            pair("kind " + kind + " behind SKIP", Acts.skip(0, 0), new int[] {kind, 1, 2, 3}, 2);
        }
        pair("SKIP behind SKIP", Acts.skip(0, 0), Acts.skip(1, 1), 2);
        pair("CHECK behind SKIP", Acts.skip(0, 0), Acts.check(1, 1), 2);
    }

    private static void laterForTraps() {
        DUE.sentence("or a can TRAP (7, 8, 10) and b WRITES, or b is a CHECK, FETCH, STORE and a is one");
        int[][] trapping = {Acts.fetch(1, 2), Acts.store(2, 3), Acts.check(0, 1)};
        for (int[] a : trapping) {
            for (int kind = 0; kind <= 7; kind++) {
                pair("kind " + kind + " behind kind " + a[0], a, new int[] {kind, 4, 5, 6}, 2);
            }
            for (int[] b : trapping) {
                DUE.is("kind " + b[0] + " behind kind " + a[0], needs(a, b), 2);
            }
        }
        pair("CHECK behind STORE", Acts.store(1, 2), Acts.check(0, 0), 2);
        StepStore x = new StepStore();
        for (int kind = 0; kind <= 9; kind++) {
            x.act(0, kind, 1, 0, 0);
            DUE.is("whether kind " + kind + " can TRAP", x.look(0, kind, 5), kind == 7 || kind == 8 ? 1 : 0);
        }
        x.act(1, 10, 0, 0, 0);
        DUE.is("whether kind 10 can TRAP", x.look(1, 0, 5), 1);
    }

    private static void sameOrLater() {
        DUE.sentence("it has the same WORD or a later one, if a READS what b WRITES, or b is a SKIP");
        pair("a READS what b WRITES", Acts.move(1, 2), Acts.shift(2, 3, 1), 1);
        pair("a READS as its y what b WRITES", Acts.add(1, 3, 2), Acts.set(2, 1), 1);
        for (int kind : new int[] {0, 1, 6, 7, 8}) {
            pair("SKIP behind kind " + kind, new int[] {kind, 1, 2, 3}, Acts.skip(0, 0), 1);
        }
        DUE.is("SKIP behind CHECK", needs(Acts.check(0, 0), Acts.skip(0, 0)), 1);
        // Were SET ahead of MOVE, which READS what it WRITES, three WORDS would do.
        StepStore x = Acts.row(Acts.move(3, 4), Acts.set(4, 2), Acts.shift(5, 4, 1), Acts.shift(6, 5, 1));
        words("not an earlier one", x, 0, 1, 2, 3);
        x.buses(2);
        words("the same one", x, 0, 0, 1, 2);
        words("no SKIP ahead of what is before it", Acts.row(Acts.set(1, 1), Acts.set(2, 1), Acts.skip(0, 0)), 0, 1, 1);
    }

    private static void nothing() {
        pair("others need nothing", Acts.set(1, 1), Acts.set(2, 1), 0);
        pair("they READ the same", Acts.move(1, 3), Acts.shift(2, 3, 1), 0);
        pair("FETCH behind SET", Acts.set(1, 1), Acts.fetch(2, 3), 0);
        pair("CHECK behind SET", Acts.set(1, 1), Acts.check(0, 0), 0);
        pair("a number is no register", Acts.set(1, 2), Acts.set(2, 1), 0);
        pair("a power is no register", Acts.set(1, 2), Acts.shift(3, 4, 1), 0);
        words("b may have an earlier WORD", Acts.row(Acts.set(1, 9), Acts.set(2, 9), Acts.shift(3, 2, 1), Acts.shift(4, 3, 1)),
                2, 0, 1, 2);
    }

    private static void roomOfParts() {
        DUE.sentence("In one WORD there are no more ACTS of a PART than there are PARTS");
        for (int buses = 1; buses <= 3; buses++) {
            StepStore x = Acts.row(Acts.set(0, 1), Acts.move(1, 7), Acts.set(2, 1), Acts.move(3, 7), Acts.set(4, 1),
                    Acts.move(5, 7));
            x.buses(buses);
            words("six on " + buses, x, buses == 1 ? new int[] {0, 1, 2, 3, 4, 5}
                    : buses == 2 ? new int[] {0, 0, 1, 1, 2, 2} : new int[] {0, 0, 0, 1, 1, 1});
        }
        StepStore x = Acts.row(Acts.shift(1, 0, 1), Acts.shift(2, 0, 1), Acts.shift(3, 0, 1));
        x.buses(3);
        words("one SHIFTER", x, 0, 1, 2);
        words("one TESTER", Acts.row(Acts.check(0, 0), Acts.skip(0, 0)), 0, 1);
        StepStore y = Acts.row(Acts.set(0, 1), Acts.set(1, 1), Acts.set(2, 1), Acts.shift(3, 7, 1), Acts.add(4, 7, 7),
                Acts.fetch(5, 7));
        y.buses(3);
        words("one of each beside three BUSES", y, 0, 0, 0, 0, 0, 0);
    }

    private static void asFewAsCanBe() {
        DUE.sentence("As few WORDS as can be");
        // Act by act into the first word that has room it would be four words.
        words("the chain is begun first", Acts.row(Acts.set(1, 1), Acts.set(2, 1), Acts.shift(3, 2, 1), Acts.shift(4, 3, 1)),
                2, 0, 1, 2);
        StepStore x = Acts.row(Acts.set(1, 1), Acts.set(2, 1), Acts.set(3, 1), Acts.shift(4, 3, 1), Acts.shift(5, 4, 1),
                Acts.shift(6, 2, 1));
        x.buses(2);
        DUE.is("two BUSES", x.pack(0), 4);
        DUE.is("no ACTS", new StepStore().pack(0), 0);
    }

    private static void theLeastNumber() {
        DUE.sentence("of all such ways the one in which WORD 0 has the ACTS that are least as a number (bit i: ACT i), "
                + "of these WORD 1, and so on");
        words("one act is less than two", Acts.row(Acts.set(1, 1), Acts.set(2, 1), Acts.shift(3, 7, 1)), 0, 1, 1);
        words("the first is less than the second", Acts.row(Acts.shift(1, 7, 1), Acts.shift(2, 7, 1), Acts.set(3, 1)), 0, 1, 1);
        words("WORD 1 too", Acts.row(Acts.set(1, 1), Acts.set(2, 1), Acts.set(3, 1), Acts.shift(4, 7, 1)), 0, 1, 2, 2);
        words("many low ones are less than a high one", Acts.row(Acts.set(1, 1), Acts.shift(2, 7, 1), Acts.add(3, 7, 7),
                Acts.set(4, 1), Acts.set(5, 1)), 0, 2, 2, 1, 2);
        StepStore x = Acts.row(Acts.set(1, 1), Acts.set(2, 1), Acts.set(3, 1), Acts.set(4, 1));
        x.buses(3);
        words("the least full enough", x, 0, 1, 1, 1);
    }

    private static void readThenWrite() {
        DUE.sentence("DONE BY WORDS: WORD by WORD; of each all ACTS READ what there was ahead of the WORD, then all WRITE");
        StepStore x = Acts.row(Acts.move(1, 2), Acts.shift(2, 3, 1), Acts.add(3, 4, 5), Acts.set(5, 50), Acts.fetch(4, 6));
        x.buses(2);
        for (int r = 1; r < 7; r++) {
            x.set(r, 10 * r);
        }
        x.poke(60, 600);
        words("all in one WORD", x, 0, 0, 0, 0, 0);
        DUE.is("run", x.run(0, true), 0);
        int[] due = {0, 20, 60, 90, 600, 50, 60};
        for (int r = 0; r < due.length; r++) {
            DUE.is("register " + r, x.register(r), due[r]);
        }
        DUE.told("one WORD", x, 5, 1, -1);
        StepStore y = Acts.row(Acts.set(1, 4), Acts.shift(2, 1, 1), Acts.add(3, 2, 1), Acts.store(1, 3));
        DUE.is("run", y.run(0, true), 0);
        DUE.is("WORD by WORD", y.cell(4), 12);
        DUE.told("four WORDS", y, 4, 4, -1);
        StepStore z = Acts.row(Acts.add(1, 2, 3), Acts.set(2, 9));
        z.set(2, 4);
        z.set(3, 4);
        z.run(0, true);
        DUE.is("what was there ahead", z.register(1), 8);
    }

    private static void ends(String what, StepStore x, Consumer<StepStore> state, int how, int... told) {
        state.accept(x);
        DUE.is(what, x.run(0, true), how);
        DUE.told(what, x, told[0], told[1], told[2]);
    }

    private static void skips() {
        DUE.sentence("If a SKIP holds, the WORDS behind its are not done");
        StepStore x = Acts.row(Acts.set(1, 5), Acts.shift(2, 7, 0), Acts.skip(0, 0), Acts.set(3, 6), Acts.set(4, 7));
        ends("SKIP holds", x, s -> s.set(7, 3), 1, 3, 1, -1);
        DUE.is("its WORD is done: a BUS", x.register(1), 5);
        DUE.is("its WORD is done: the SHIFTER", x.register(2), 3);
        DUE.is("not the one behind it", x.register(3), 0);
        DUE.is("nor the last one", x.register(4), 0);
        ends("SKIP does not hold", x, s -> s.flag(0, true), 0, 5, 3, -1);
        DUE.is("the one behind it", x.register(3), 6);
        DUE.is("the last one", x.register(4), 7);
    }

    private static void traps() {
        DUE.sentence("If one TRAPS it goes back as told (whatever SKIPS)");
        StepStore x = Acts.row(Acts.set(1, 5), Acts.add(2, 7, 7), Acts.set(3, 1), Acts.fetch(4, 7), Acts.skip(1, 0));
        x.set(7, 64);
        x.flag(1, true);
        x.image();
        DUE.is("two WORDS", x.pack(0), 2);
        DUE.is("TRAP and SKIP are in one", x.word(0, 3), x.word(0, 4));
        ends("a TRAP beside a SKIP that holds", x, s -> { }, 2, 5, 2, 3);
        DUE.is("all is as ahead", x.restore(), 0);
        DUE.is("beside", x.beside(0), 0);
        ends("without the TRAP it SKIPS", x, s -> s.set(7, 0), 1, 5, 2, -1);
        DUE.is("what was written stays", x.register(1), 5);
    }
}
