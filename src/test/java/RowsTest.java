/** Promises 9 to 13: acts, how they are looked at, buses, and what acts need of one another. */
public final class RowsTest {
    private static final Due DUE = new Due("RowsTest");
    private static final int FREE = 999;

    public static void main(String[] args) {
        act();
        actEdges();
        clear();
        look();
        buses();
        needsOfThings();
        needsOfTrapsAndSkips();
        needsRefused();
        DUE.end();
    }

    private static void act() {
        DUE.promise(9);
        StepStore x = new StepStore();
        for (int i = 1; i <= 10; i++) {
            DUE.is("act " + i, x.act(11, 0, 0, i, 0), i);
        }
        DUE.is("an 11th act", x.act(11, 0, 0, 0, 0), -7);
        DUE.is("NO ahead of FULL", x.act(11, 0, 8, 0, 0), -6);
        DUE.is("BEYOND ahead of NO", x.act(12, 99, 0, 0, 0), -3);
        DUE.is("act(-1, ..)", x.act(-1, 0, 0, 0, 0), -3);
        DUE.is("kind -1", x.act(0, -1, 0, 0, 0), -6);
        DUE.is("kind 11", x.act(0, 11, 0, 0, 0), -6);
        DUE.is("others have none", x.clear(0), 0);
        DUE.is("it has 10", x.clear(11), 10);
        DUE.is("status -7", x.status(-7), 1);
        DUE.is("status -6", x.status(-6), 3);
        DUE.is("status -3", x.status(-3), 2);
    }

    private static void actEdges() {
        for (int kind = 0; kind <= 10; kind++) {
            if (kind <= 7) {
                edges(kind, 'd', 0, 7);
            } else {
                edges(kind, 'd', Integer.MIN_VALUE, Integer.MAX_VALUE);
            }
            if (kind == 0) {
                edges(kind, 'x', 0, 255);
            } else {
                edges(kind, 'x', 0, kind <= 8 ? 7 : 1);
            }
            if (kind < 2 || kind == 7) {
                edges(kind, 'y', Integer.MIN_VALUE, Integer.MAX_VALUE);
            } else if (kind == 6) {
                edges(kind, 'y', -31, 31);
            } else {
                edges(kind, 'y', 0, kind <= 8 ? 7 : 1);
            }
        }
    }

    private static void edges(int kind, char which, int least, int most) {
        one(kind, which, least, true);
        one(kind, which, most, true);
        if (least != Integer.MIN_VALUE) {
            one(kind, which, least - 1, false);
            one(kind, which, Integer.MIN_VALUE, false);
            one(kind, which, most + 1, false);
            one(kind, which, Integer.MAX_VALUE, false);
        }
    }

    private static void one(int kind, char which, int v, boolean fine) {
        StepStore x = new StepStore();
        int got = x.act(3, kind, which == 'd' ? v : 0, which == 'x' ? v : 0, which == 'y' ? v : 0);
        DUE.is("kind " + kind + " with " + which + " " + v, got, fine ? 1 : -6);
        DUE.is("and then it has", x.clear(3), fine ? 1 : 0);
    }

    private static void clear() {
        DUE.promise(10);
        StepStore x = new StepStore();
        x.act(5, 0, 0, 0, 0);
        x.act(5, 0, 1, 0, 0);
        x.act(6, 0, 1, 0, 0);
        x.store();
        DUE.is("clear(5)", x.clear(5), 2);
        DUE.is("THE STORE is away", x.at(0, 0), -2);
        DUE.is("the other stays packed", x.word(6, 0), 0);
        DUE.is("clear(5) again", x.clear(5), 0);
        DUE.is("no act", x.look(5, 0, 0), -3);
        x.act(5, 0, 1, 0, 0);
        DUE.is("not packed", x.word(5, 0), -2);
        DUE.is("clear(12)", x.clear(12), -3);
        DUE.is("clear(-1)", x.clear(-1), -3);
        DUE.is("store", x.store(), 1);
        DUE.is("clear of an empty one changes no acts", x.clear(0), 0);
        DUE.is("THE STORE is there still", x.at(0, 2), 2);
    }

    private static void look() {
        DUE.promise(11);
        StepStore x = new StepStore();
        int[][] wanted = {
            {0, 1, 200, -1, 0, 0}, {1, 2, 3, -1, 0, 0}, {2, 3, 4, 5, 1, 0}, {3, 4, 5, 6, 1, 0},
            {4, 5, 6, 7, 1, 0}, {5, 6, 7, 0, 1, 0}, {6, 7, 0, -31, 2, 0}, {7, 0, 1, -1, 3, 1},
            {8, -1, 2, 3, 3, 1}, {9, -1, 0, 1, 4, 0}, {10, -1, 1, 0, 4, 1},
        };
        for (int kind = 0; kind <= 10; kind++) {
            int[] want = wanted[kind];
            x.clear(1);
            x.act(1, 9, FREE, 1, 1);
            x.act(1, kind, kind <= 7 ? want[1] : FREE, want[2], kind < 2 || kind == 7 ? FREE : want[3]);
            for (int what = 0; what < 6; what++) {
                DUE.is("kind " + kind + ", what " + what, x.look(1, 1, what), want[what]);
            }
        }
        x = new StepStore();
        x.act(1, 6, 0, 0, -3);
        DUE.is("a power that looks like a refusal", x.look(1, 0, 3), -3);
        DUE.is("is none", x.status(-3), 0);
        DUE.is("look(12, 0, 0)", x.look(12, 0, 0), -3);
        DUE.is("look(-1, 0, 0)", x.look(-1, 0, 0), -3);
        DUE.is("look(1, 1, 9)", x.look(1, 1, 9), -3);
        DUE.is("look(1, -1, 9)", x.look(1, -1, 9), -3);
        DUE.is("look(1, 0, 6)", x.look(1, 0, 6), -6);
        DUE.is("look(1, 0, -1)", x.look(1, 0, -1), -6);
        DUE.is("status -3", x.status(-3), 4);
        DUE.is("status -6", x.status(-6), 2);
    }

    private static void buses() {
        DUE.promise(12);
        StepStore x = new StepStore();
        x.act(0, 0, 0, 1, 0);
        x.act(0, 0, 1, 2, 0);
        x.act(0, 0, 2, 3, 0);
        DUE.is("pack with 1", x.pack(0), 3);
        DUE.is("buses(2)", x.buses(2), 1);
        DUE.is("not packed any more", x.word(0, 0), -2);
        DUE.is("pack with 2", x.pack(0), 2);
        DUE.is("store", x.store(), 2);
        DUE.is("buses(3)", x.buses(3), 2);
        DUE.is("no THE STORE", x.narrow(0), -2);
        DUE.is("pack with 3", x.pack(0), 1);
        DUE.is("buses(0)", x.buses(0), -6);
        DUE.is("buses(4)", x.buses(4), -6);
        DUE.is("still packed", x.word(0, 2), 0);
        x.store();
        DUE.is("buses(3) again changes nothing", x.buses(3), 3);
        DUE.is("still packed", x.word(0, 2), 0);
        DUE.is("THE STORE is there", x.at(0, 0), 3);
        DUE.is("status -6", x.status(-6), 2);
    }

    /** Rows of: kind d x y of the first, of the second, what is due. */
    private static void need(int k, int d, int x, int y, int k2, int d2, int x2, int y2, int want) {
        StepStore s = new StepStore();
        s.act(0, k, d, x, y);
        s.act(0, k2, d2, x2, y2);
        DUE.is("needs of " + k + " " + d + " " + x + " " + y + " and " + k2 + " " + d2 + " " + x2 + " " + y2,
                s.needs(0, 0, 1), want);
    }

    private static void needsOfThings() {
        DUE.promise(13);
        need(0, 1, 5, 0, 0, 2, 5, 0, 0);
        need(0, 1, 5, 0, 0, 1, 5, 0, 2);
        need(0, 1, 2, 0, 1, 3, 2, 0, 0);
        need(0, 1, 5, 0, 1, 2, 1, 0, 2);
        need(1, 2, 1, 0, 0, 1, 5, 0, 1);
        need(1, 2, 1, 0, 1, 3, 1, 0, 0);
        need(0, 1, 0, 0, 2, 3, 1, 4, 2);
        need(0, 1, 0, 0, 2, 3, 4, 1, 2);
        need(2, 3, 4, 1, 0, 1, 0, 0, 1);
        need(2, 3, 1, 4, 0, 1, 0, 0, 1);
        need(2, 0, 1, 2, 5, 3, 4, 5, 2);
        need(4, 0, 1, 2, 9, 0, 0, 1, 2);
        need(4, 0, 1, 2, 10, 0, 1, 1, 2);
        need(10, 0, 1, 1, 4, 0, 1, 2, 2);
        need(6, 0, 1, 2, 6, 2, 3, 4, 0);
        need(6, 0, 1, 2, 6, 1, 3, 0, 1);
        need(0, 2, 0, 0, 6, 3, 1, 2, 0);
        need(0, 1, 0, 0, 7, 3, 1, 0, 2);
        need(0, 2, 0, 0, 7, 3, 1, 2, 0);
        need(0, 1, 0, 0, 8, 1, 2, 3, 0);
        need(0, 1, 0, 0, 8, 0, 1, 3, 2);
        need(0, 1, 0, 0, 8, 0, 2, 1, 2);
        need(0, 0, 1, 0, 10, 0, 0, 0, 0);
        need(0, 0, 1, 0, 9, 0, 0, 0, 1);
    }

    private static void needsOfTrapsAndSkips() {
        for (int kind = 0; kind <= 10; kind++) {
            need(9, 0, 0, 0, kind, 5, 1, 1, 2);
        }
        int[] trapping = {7, 8, 10};
        for (int a : trapping) {
            for (int kind = 0; kind <= 8; kind++) {
                need(a, 0, 0, 0, kind, 5, 1, 1, 2);
            }
            need(a, 0, 0, 0, 9, 0, 1, 1, 1);
            need(a, 0, 0, 0, 10, 0, 1, 1, 2);
        }
        for (int kind : new int[] {0, 1, 6, 7, 8, 10}) {
            need(kind, 0, 0, 0, 9, 0, 1, 1, 1);
        }
    }

    private static void needsRefused() {
        StepStore x = new StepStore();
        x.act(0, 0, 1, 5, 0);
        x.act(0, 0, 2, 5, 0);
        DUE.is("needs(12, 0, 1)", x.needs(12, 0, 1), -3);
        DUE.is("needs(-1, 0, 1)", x.needs(-1, 0, 1), -3);
        DUE.is("needs(0, 0, 2)", x.needs(0, 0, 2), -3);
        DUE.is("needs(0, -1, 1)", x.needs(0, -1, 1), -3);
        DUE.is("needs(0, 2, 1), beyond ahead of NO", x.needs(0, 2, 1), -3);
        DUE.is("needs(0, 1, -1), beyond ahead of NO", x.needs(0, 1, -1), -3);
        DUE.is("needs(0, 1, 0)", x.needs(0, 1, 0), -6);
        DUE.is("needs(0, 1, 1)", x.needs(0, 1, 1), -6);
        DUE.is("status -3", x.status(-3), 6);
        DUE.is("status -6", x.status(-6), 2);
    }
}
