import java.util.Map;
import java.util.function.Consumer;

/** The boundary cases of promises 28 and 29: images of nothing and of all, and what is CUT when they come back. */
public final class ImageEdgeTest {
    private static final Due DUE = new Due("ImageEdgeTest");
    private static final int THINGS = 8 + 2 + 64;

    public static void main(String[] args) {
        noImage();
        imageOfNothing();
        imageOfAll();
        eachAlone();
        restoreCuts();
        restoreCountsWhatIsCut();
        theLatestImage();
        DUE.end();
    }

    private static void fill(StepStore x, long v) {
        for (int r = 0; r < 8; r++) {
            x.set(r, v);
        }
        for (int f = 0; f < 2; f++) {
            x.flag(f, v != 0);
        }
        for (int c = 0; c < 64; c++) {
            x.poke(c, v);
        }
    }

    private static void noImage() {
        DUE.promise(29);
        Twins.refused(DUE, "restore() of a new object", States::nothing, x -> x.restore(), -2);
        Twins.refused(DUE, "restore() without an image", States::rows, x -> x.restore(), -2);
        for (Map.Entry<String, Consumer<StepStore>> state : States.all().entrySet()) {
            StepStore x = new StepStore();
            state.getValue().accept(x);
            x.image();
            DUE.is(state.getKey() + ": behind image() nothing is another", x.restore(), 0);
        }
    }

    private static void imageOfNothing() {
        DUE.promise(28);
        Twins.taken(DUE, "image() of nothing", States::nothing, x -> x.image(), 0);
        StepStore x = new StepStore();
        x.image();
        fill(x, -1);
        DUE.promise(29);
        DUE.is("all are others", x.restore(), THINGS);
        DUE.is("all are 0", x.image(), 0);
        DUE.is("none is another", x.restore(), 0);
    }

    private static void imageOfAll() {
        DUE.promise(28);
        StepStore x = new StepStore();
        fill(x, -1);
        DUE.is("none is 0", x.image(), THINGS);
        DUE.is("none is 0, again", x.image(), THINGS);
        fill(x, 0);
        DUE.promise(29);
        DUE.is("all are others", x.restore(), THINGS);
        DUE.is("the last register", x.register(7), 65535);
        DUE.is("the last cell", x.cell(63), 4294967295L);
        DUE.is("both flags", x.flags(), 3);
        DUE.is("none is another", x.restore(), 0);
    }

    /** Each register, flag and cell alone is counted, and comes back. */
    private static void eachAlone() {
        for (int thing = 0; thing < THINGS; thing++) {
            StepStore x = new StepStore();
            change(x, thing, 1);
            DUE.promise(28);
            DUE.is("thing " + thing + " isn't 0", x.image(), 1);
            change(x, thing, 0);
            DUE.promise(29);
            DUE.is("thing " + thing + " comes back", x.restore(), 1);
            DUE.is("thing " + thing + " is there", x.image(), 1);
        }
    }

    private static void change(StepStore x, int thing, int v) {
        if (thing < 8) {
            x.set(thing, v);
        } else if (thing < 10) {
            x.flag(thing - 8, v == 1);
        } else {
            x.poke(thing - 10, v);
        }
    }

    private static void restoreCuts() {
        DUE.promise(29);
        for (int r : new int[] {0, 7}) {
            StepStore x = new StepStore();
            x.width(r, 32);
            x.set(r, -1);
            x.poke(r, -1);
            x.image();
            for (int w = 1; w <= 32; w++) {
                x.set(r, 0);
                x.width(r, w);
                DUE.is("register " + r + " is another", x.restore(), 1);
                DUE.is("CUT to width " + w, x.register(r), (1L << w) - 1);
                DUE.is("the width is as it is now", x.width(r, w), w);
                DUE.is("no cell is CUT", x.cell(r), 4294967295L);
            }
        }
    }

    private static void restoreCountsWhatIsCut() {
        StepStore x = new StepStore();
        x.set(3, 256);
        DUE.is("one isn't 0", x.image(), 1);
        x.width(3, 8);
        DUE.is("CUT it is 0, as before", x.restore(), 0);
        x.set(3, 1);
        DUE.is("CUT it is another than 1", x.restore(), 1);
        DUE.is("it is 0", x.register(3), 0);
        x.width(3, 9);
        DUE.is("the IMAGE has it whole", x.restore(), 1);
        DUE.is("it is there", x.register(3), 256);
    }

    private static void theLatestImage() {
        StepStore x = new StepStore();
        x.set(0, 1);
        x.image();
        x.set(0, 2);
        x.image();
        x.set(0, 3);
        DUE.is("the latest", x.restore(), 1);
        DUE.is("is kept", x.register(0), 2);
        x.set(0, 4);
        DUE.is("it is kept still", x.restore(), 1);
        DUE.is("as it was", x.register(0), 2);
    }
}
