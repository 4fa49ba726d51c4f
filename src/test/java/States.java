import java.util.LinkedHashMap;
import java.util.Map;
import java.util.function.Consumer;

/** States from which edges are looked at. Each takes some 90 calls at most, for an object has 512. */
final class States {
    /** Instructions that the states below leave without acts. */
    static final int EMPTY = 3;
    /** Has three acts, is packed from rows() on. */
    static final int PACKED = 2;
    /** Has two acts, is not packed in rows(). */
    static final int UNPACKED = 4;
    /** Has ten acts. */
    static final int FULL = 11;

    private States() {
    }

    static Map<String, Consumer<StepStore>> all() {
        Map<String, Consumer<StepStore>> states = new LinkedHashMap<>();
        states.put("of a new object", States::nothing);
        states.put("with rows", States::rows);
        states.put("with all", States::whole);
        return states;
    }

    static void nothing(StepStore x) {
        // All is as at first.
    }

    /** Rows, one of them packed; no THE STORE, no IMAGE, no THE ROW. */
    static void rows(StepStore x) {
        x.buses(2);
        x.act(0, 0, 1, 5, 0);
        x.act(0, 2, 2, 2, 1);
        x.act(1, 10, 0, 1, 1);
        x.act(1, 0, 1, 5, 0);
        x.act(1, 2, 2, 2, 1);
        x.act(PACKED, 1, 3, 2, 0);
        x.act(PACKED, 6, 4, 3, -3);
        x.act(PACKED, 9, 0, 0, 0);
        x.act(UNPACKED, 7, 5, 6, 0);
        x.act(UNPACKED, 8, 0, 0, 5);
        for (int i = 0; i < 10; i++) {
            x.act(FULL, i % 2 == 0 ? 0 : 6, i % 6, i % 7, 1);
        }
        x.pack(PACKED);
        x.width(5, 20);
        x.width(6, 32);
        x.width(7, 9);
        for (int r = 0; r < 7; r++) {
            x.set(r, 40 + r);
        }
        for (int c = 0; c < 10; c++) {
            x.poke(c, 0x12340000L + c);
        }
        x.poke(63, -1);
        x.flag(0, true);
        x.code(0, 0);
        x.code(1, 1);
        x.code(2, PACKED);
        x.code(4, UNPACKED);
        x.code(15, FULL);
    }

    /** What rows() has, an IMAGE that differs from what there is, steps and a trap, THE ROW, THE STORE. */
    static void whole(StepStore x) {
        rows(x);
        x.image();
        x.step(20);
        x.set(6, 64);
        x.run(UNPACKED, true);
        x.lay(0, 12);
        x.store();
    }
}
