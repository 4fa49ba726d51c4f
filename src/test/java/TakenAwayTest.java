import java.util.LinkedHashMap;
import java.util.Map;
import java.util.function.Consumer;

/**
 * "What changes ACTS of an INSTRUCTION takes away what was PACKED of it, and THE STORE; what changes BUSES all
 * that was PACKED, and THE STORE." And no other call does.
 */
public final class TakenAwayTest {
    private static final Due DUE = new Due("TakenAwayTest");
    private static final int[] WITH_ACTS = {0, 1, States.PACKED, States.UNPACKED, States.FULL};

    public static void main(String[] args) {
        actTakesAway();
        clearTakesAway();
        busesTakesAway();
        whatChangesNothing();
        othersTakeNothing();
        whatPacks();
        storeIsMadeAnew();
        DUE.end();
    }

    private static void storeIs(String what, StepStore x, boolean there) {
        DUE.is(what + ": place", x.place(0, 0) == -2 ? 0 : 1, there ? 1 : 0);
        DUE.is(what + ": at", x.at(0, 0) == -2 ? 0 : 1, there ? 1 : 0);
        DUE.is(what + ": group", x.group(0) == -2 ? 0 : 1, there ? 1 : 0);
        DUE.is(what + ": narrow", x.narrow(0) == -2 ? 0 : 1, there ? 1 : 0);
    }

    private static void packedIs(String what, StepStore x, int instruction, boolean packed) {
        DUE.is(what + ": word in " + instruction, x.word(instruction, 0) == -2 ? 0 : 1, packed ? 1 : 0);
        DUE.is(what + ": why in " + instruction, x.why(instruction, 0) == -2 ? 0 : 1, packed ? 1 : 0);
    }

    private static StepStore whole() {
        StepStore x = new StepStore();
        States.whole(x);
        return x;
    }

    private static void actTakesAway() {
        DUE.promise(9);
        for (int changed = 0; changed < 11; changed++) {
            StepStore x = whole();
            x.act(changed, 0, 0, 0, 0);
            storeIs("act in " + changed, x, false);
            for (int instruction : WITH_ACTS) {
                packedIs("act in " + changed, x, instruction, instruction != changed);
            }
            packedIs("act in " + changed, x, changed, false);
        }
        StepStore x = new StepStore();
        States.rows(x);
        x.act(States.UNPACKED, 0, 0, 0, 0);
        packedIs("act in another", x, States.PACKED, true);
        x.act(States.PACKED, 0, 0, 0, 0);
        packedIs("act in it", x, States.PACKED, false);
    }

    private static void clearTakesAway() {
        DUE.promise(10);
        for (int changed : WITH_ACTS) {
            StepStore x = whole();
            x.clear(changed);
            storeIs("clear of " + changed, x, false);
            for (int instruction : WITH_ACTS) {
                if (instruction != changed) {
                    packedIs("clear of " + changed, x, instruction, true);
                }
            }
            DUE.is("no words of what was cleared", x.pack(changed), 0);
            x.act(changed, 6, 0, 0, 0);
            packedIs("an act behind clear of " + changed, x, changed, false);
        }
    }

    private static void busesTakesAway() {
        DUE.promise(12);
        for (int buses : new int[] {1, 3}) {
            StepStore x = whole();
            x.buses(buses);
            storeIs("buses(" + buses + ")", x, false);
            for (int instruction : WITH_ACTS) {
                packedIs("buses(" + buses + ")", x, instruction, false);
            }
            x.buses(2);
            storeIs("buses as before", x, false);
            for (int instruction : WITH_ACTS) {
                packedIs("buses as before", x, instruction, false);
            }
        }
        StepStore x = new StepStore();
        States.rows(x);
        x.buses(3);
        packedIs("buses without THE STORE", x, States.PACKED, false);
    }

    /** These are not refused, but no acts and no buses are others than before. */
    private static void whatChangesNothing() {
        StepStore x = whole();
        DUE.promise(12);
        DUE.is("buses that were there", x.buses(2), 2);
        storeIs("buses that were there", x, true);
        packedIs("buses that were there", x, 0, true);
        DUE.promise(10);
        DUE.is("clear of no acts", x.clear(States.EMPTY), 0);
        storeIs("clear of no acts", x, true);
        packedIs("clear of no acts", x, 0, true);
    }

    private static Map<String, Consumer<StepStore>> others() {
        Map<String, Consumer<StepStore>> calls = new LinkedHashMap<>();
        calls.put("width", x -> x.width(1, 3));
        calls.put("set", x -> x.set(1, 3));
        calls.put("register", x -> x.register(1));
        calls.put("poke", x -> x.poke(1, 3));
        calls.put("cell", x -> x.cell(1));
        calls.put("flag", x -> x.flag(1, true));
        calls.put("flags", x -> x.flags());
        calls.put("look", x -> x.look(0, 0, 0));
        calls.put("needs", x -> x.needs(0, 0, 1));
        calls.put("pack", x -> x.pack(0));
        calls.put("word", x -> x.word(0, 0));
        calls.put("why", x -> x.why(0, 0));
        calls.put("store", x -> x.store());
        calls.put("place", x -> x.place(0, 0));
        calls.put("at", x -> x.at(0, 0));
        calls.put("group", x -> x.group(0));
        calls.put("narrow", x -> x.narrow(0));
        calls.put("run by words", x -> x.run(0, true));
        calls.put("run plain", x -> x.run(0, false));
        calls.put("run that traps", x -> x.run(States.UNPACKED, true));
        calls.put("told", x -> x.told(0));
        calls.put("beside", x -> x.beside(0));
        calls.put("code", x -> x.code(0, 1));
        calls.put("step", x -> x.step(5));
        calls.put("count", x -> x.count(0));
        calls.put("image", x -> x.image());
        calls.put("restore", x -> x.restore());
        calls.put("lay", x -> x.lay(0, 5));
        calls.put("tear", x -> x.tear());
        calls.put("row", x -> x.row(0));
        calls.put("copy", x -> x.copy(0, 1, 2));
        calls.put("status", x -> x.status(-2));
        return calls;
    }

    private static void othersTakeNothing() {
        DUE.promise(17);
        for (Map.Entry<String, Consumer<StepStore>> call : others().entrySet()) {
            StepStore x = whole();
            call.getValue().accept(x);
            storeIs(call.getKey(), x, true);
            for (int instruction : WITH_ACTS) {
                packedIs(call.getKey(), x, instruction, true);
            }
        }
    }

    /** Of rows that are not packed, no call but those by words packs, and each of these its own row alone. */
    private static void whatPacks() {
        DUE.promise(15);
        for (Map.Entry<String, Consumer<StepStore>> call : others().entrySet()) {
            StepStore x = new StepStore();
            States.rows(x);
            call.getValue().accept(x);
            boolean packs0 = call.getKey().matches("pack|store|run by words|step");
            boolean packs4 = call.getKey().matches("store|run that traps");
            packedIs(call.getKey(), x, 0, packs0);
            packedIs(call.getKey(), x, States.UNPACKED, packs4);
            packedIs(call.getKey(), x, States.PACKED, true);
            storeIs(call.getKey(), x, call.getKey().equals("store"));
        }
    }

    private static void storeIsMadeAnew() {
        DUE.promise(17);
        StepStore x = new StepStore();
        x.act(0, 0, 0, 1, 0);
        x.act(1, 0, 0, 1, 0);
        DUE.is("shared", x.store(), 1);
        x.act(1, 0, 0, 2, 0);
        DUE.is("not any more", x.store(), 3);
        DUE.is("one has it", x.at(0, 2), 1);
        x.clear(1);
        DUE.is("one is left", x.store(), 1);
        DUE.is("one has it", x.at(0, 2), 1);
        x.act(0, 0, 1, 1, 0);
        DUE.is("two words", x.store(), 2);
        x.buses(2);
        DUE.is("one word", x.store(), 1);
        DUE.is("of two acts", x.at(0, 0), 2);
        DUE.is("two fields", x.narrow(3), 2);
    }
}
