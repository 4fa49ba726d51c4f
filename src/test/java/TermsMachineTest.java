import java.util.LinkedHashMap;
import java.util.Map;
import java.util.function.Consumer;
import java.util.function.ToLongFunction;

/** The document's Terms, sentence by sentence: 3 THE MACHINE, 4 REFUSALS, the constants. */
public final class TermsMachineTest {
    private static final Due DUE = new Due("TermsMachineTest");

    public static void main(String[] args) {
        table();
        pcBeyond();
        codeOfTheCell();
        noInstruction();
        pcOneMore();
        doneByWords();
        trapGoesOn();
        theFirstRefusal();
        refusedChangesNothing();
        whatChangesActs();
        whatChangesBuses();
        constants();
        DUE.end();
    }

    private static void table() {
        DUE.sentence("a TABLE of codes 0 .. 15, each an INSTRUCTION or none (at first)");
        StepStore x = new StepStore();
        for (int code = 0; code < 16; code++) {
            DUE.is("code " + code + " at first", x.code(code, code % 12), -1);
        }
        for (int code = 0; code < 16; code++) {
            DUE.is("code " + code, x.code(code, -1), code % 12);
            DUE.is("code " + code + ", none again", x.code(code, 11), -1);
        }
        DUE.is("code -1", x.code(-1, 0), -3);
        DUE.is("code 16", x.code(16, 0), -3);
        DUE.is("INSTRUCTION 12", x.code(0, 12), -3);
        DUE.is("INSTRUCTION -2", x.code(0, -2), -3);
    }

    /** All codes are an instruction that adds 1 to register 1. */
    private static StepStore counting() {
        StepStore x = Acts.row(Acts.set(2, 1), Acts.add(1, 1, 2));
        for (int code = 0; code < 16; code++) {
            x.code(code, 0);
        }
        return x;
    }

    private static void pcBeyond() {
        DUE.sentence("A STEP: PC is REGISTER 7; if its number is above 63: it ends there (1)");
        StepStore x = counting();
        DUE.is("from 0 to 64", x.step(100), 64);
        DUE.is("it ends there", x.register(7), 64);
        DUE.is("(1)", x.count(2), 1);
        DUE.is("64 were done", x.register(1), 64);
        for (long pc : new long[] {64, 65, 100, 65535, 4294967295L}) {
            x.width(7, 32);
            x.set(7, pc);
            DUE.is("at " + pc, x.step(1), 0);
            DUE.is("(1) at " + pc, x.count(2), 1);
            DUE.is("PC stays", x.register(7), pc);
        }
        x.set(7, 63);
        DUE.is("at 63", x.step(1), 1);
        DUE.is("all STEPS were done", x.count(2), 0);
        DUE.is("65 were done", x.register(1), 65);
    }

    private static void codeOfTheCell() {
        DUE.sentence("The code is the CELL at PC, modulo 16");
        StepStore x = new StepStore();
        for (int code = 0; code < 12; code++) {
            Acts.give(x, code, Acts.set(1, 100 + code));
            x.code(code + 4, code);
        }
        long[] above = {0, 16, 256, 65536, 4294967280L};
        for (int code = 4; code < 16; code++) {
            for (int pc : new int[] {0, 29, 63}) {
                x.poke(pc, above[(code + pc) % above.length] + code);
                x.set(7, pc);
                DUE.is("step", x.step(1), 1);
                DUE.is("code " + code + " at " + pc, x.register(1), 96 + code);
            }
        }
    }

    private static void noInstruction() {
        DUE.sentence("If that is none: it ends (2)");
        StepStore x = counting();
        x.code(9, -1);
        x.poke(3, 16 + 9);
        DUE.is("three ahead of it", x.step(10), 3);
        DUE.is("(2)", x.count(2), 2);
        DUE.is("PC stays", x.register(7), 3);
        DUE.is("again none", x.step(10), 0);
        DUE.is("(2) again", x.count(2), 2);
        DUE.is("STEPS in all", x.count(0), 3);
        x.code(9, 5);
        DUE.is("an INSTRUCTION without ACTS is one", x.step(1), 1);
        DUE.is("PC", x.register(7), 4);
    }

    private static void pcOneMore() {
        DUE.sentence("Else PC gets 1 more, CUT");
        for (int width = 1; width <= 6; width++) {
            StepStore x = counting();
            x.width(7, width);
            DUE.is("round and round", x.step((1 << width) + 1), (1 << width) + 1);
            DUE.is("PC of width " + width, x.register(7), 1);
        }
        StepStore x = Acts.row(Acts.move(1, 7), Acts.set(7, 40));
        x.code(0, 0);
        x.set(7, 20);
        DUE.is("step", x.step(1), 1);
        DUE.is("ahead of the INSTRUCTION", x.register(1), 21);
        DUE.is("which may give PC another number", x.register(7), 40);
    }

    private static void doneByWords() {
        DUE.sentence("its INSTRUCTION is done by WORDS");
        StepStore x = Acts.row(Acts.set(1, 1), Acts.shift(2, 1, 3), Acts.set(3, 9));
        x.code(0, 0);
        DUE.is("step", x.step(1), 1);
        DUE.told("two WORDS", x, 3, 2, -1);
        DUE.is("it is PACKED", x.word(0, 1), 1);
        DUE.is("what it did", x.register(2), 8);
    }

    private static void trapGoesOn() {
        DUE.sentence("if it TRAPS PC is 1 more all the same (3: told, it goes on)");
        StepStore x = Acts.row(Acts.set(7, 50), Acts.set(1, 200), Acts.fetch(2, 1));
        Acts.give(x, 1, Acts.set(3, 5));
        x.code(0, 0);
        x.code(1, 1);
        x.poke(2, 1);
        x.image();
        DUE.is("two that TRAP", x.step(2), 2);
        DUE.is("PC", x.register(7), 2);
        DUE.told("told", x, 3, 2, 2);
        DUE.is("PC alone is another", x.restore(), 1);
        DUE.is("two that TRAP, one behind them", x.step(3), 3);
        DUE.is("it goes on", x.register(3), 5);
        DUE.is("PC", x.register(7), 3);
        DUE.is("how it ended", x.count(2), 0);
        DUE.is("TRAPS", x.count(1), 4);
        DUE.is("STEPS", x.count(0), 5);
    }

    /** Calls that are refused for several reasons, with the one that stands first in their line. */
    private static void theFirstRefusal() {
        DUE.sentence("4 REFUSALS, of several the first as each line has them: BEYOND a number beyond, MISSING nothing there, "
                + "BELOW a count below 0, COPY, NO not as told, FULL no room");
        StepStore x = new StepStore();
        DUE.is("width: BEYOND, NO", x.width(8, 0), -3);
        DUE.is("act: BEYOND, NO", x.act(12, 11, 8, 8, 8), -3);
        DUE.is("look: BEYOND, NO", x.look(0, 0, 6), -3);
        DUE.is("needs: BEYOND, NO", x.needs(0, 1, 0), -3);
        DUE.is("word: BEYOND, MISSING", x.word(0, 0), -3);
        DUE.is("why: BEYOND, MISSING", x.why(0, 0), -3);
        DUE.is("place: BEYOND, MISSING", x.place(12, 0), -3);
        DUE.is("place: MISSING, BEYOND", x.place(0, 0), -2);
        DUE.is("at: MISSING, BEYOND, NO", x.at(-1, 3), -2);
        DUE.is("group: BEYOND, MISSING", x.group(7), -3);
        DUE.is("narrow: MISSING, NO", x.narrow(4), -2);
        DUE.is("step: BELOW, NO", x.step(-1), -4);
        DUE.is("lay: BELOW, BEYOND", x.lay(-1, -1), -4);
        DUE.is("copy: MISSING, BELOW, COPY", x.copy(-1, -1, -1), -2);
        DUE.is("row: MISSING, BEYOND", x.row(-1), -2);
        x.store();
        x.lay(0, 3);
        for (int i = 0; i < 10; i++) {
            x.act(1, 0, 0, 0, 0);
        }
        DUE.is("act: NO, FULL", x.act(1, 0, 8, 0, 0), -6);
        DUE.is("act: BEYOND, FULL", x.act(-1, 0, 0, 0, 0), -3);
        DUE.is("act: FULL", x.act(1, 0, 0, 0, 0), -7);
        DUE.is("copy: BELOW, COPY", x.copy(-1, 9, -1), -4);
        DUE.is("copy: COPY", x.copy(0, 1, 3), -5);
        x.store();
        DUE.is("at: BEYOND, NO", x.at(99, 3), -3);
        DUE.is("at: NO", x.at(0, 3), -6);
        int[] due = {5, 10, 3, 1, 2, 1};
        for (int by = -2; by >= -7; by--) {
            DUE.is("each counts once: status(" + by + ")", x.status(by), due[-2 - by]);
        }
    }

    private static Map<ToLongFunction<StepStore>, Integer> refused() {
        Map<ToLongFunction<StepStore>, Integer> calls = new LinkedHashMap<>();
        calls.put(x -> x.width(8, 1), -3);
        calls.put(x -> x.width(0, 33), -6);
        calls.put(x -> x.set(-1, 77), -3);
        calls.put(x -> x.poke(64, 77), -3);
        calls.put(x -> x.flag(2, false), -3);
        calls.put(x -> x.act(12, 0, 0, 0, 0), -3);
        calls.put(x -> x.act(0, 0, 0, 256, 0), -6);
        calls.put(x -> x.act(States.FULL, 0, 0, 0, 0), -7);
        calls.put(x -> x.clear(-1), -3);
        calls.put(x -> x.look(0, 2, 0), -3);
        calls.put(x -> x.look(0, 0, 6), -6);
        calls.put(x -> x.buses(4), -6);
        calls.put(x -> x.needs(0, 0, 2), -3);
        calls.put(x -> x.needs(0, 1, 1), -6);
        calls.put(x -> x.pack(12), -3);
        calls.put(x -> x.word(0, 2), -3);
        calls.put(x -> x.why(0, -1), -3);
        calls.put(x -> x.place(0, 2), -3);
        calls.put(x -> x.at(-1, 0), -3);
        calls.put(x -> x.at(0, -1), -6);
        calls.put(x -> x.group(7), -3);
        calls.put(x -> x.narrow(-1), -6);
        calls.put(x -> x.run(12, true), -3);
        calls.put(x -> x.run(-1, false), -3);
        calls.put(x -> x.told(3), -6);
        calls.put(x -> x.beside(12), -3);
        calls.put(x -> x.code(16, 0), -3);
        calls.put(x -> x.code(0, 12), -3);
        calls.put(x -> x.step(-1), -4);
        calls.put(x -> x.step(1001), -6);
        calls.put(x -> x.count(3), -6);
        calls.put(x -> x.lay(0, -1), -4);
        calls.put(x -> x.lay(1, 64), -3);
        calls.put(x -> x.row(12), -3);
        calls.put(x -> x.copy(0, 0, -1), -4);
        calls.put(x -> x.copy(0, 11, 2), -5);
        calls.put(x -> x.status(-8), -6);
        return calls;
    }

    private static void refusedChangesNothing() {
        DUE.sentence("A refused call changes nothing but status()");
        int number = 0;
        for (Map.Entry<ToLongFunction<StepStore>, Integer> call : refused().entrySet()) {
            Twins.refused(DUE, "call " + number, States::whole, call.getKey(), call.getValue());
            number++;
        }
        Twins.refused(DUE, "register(8)", States::whole, x -> x.register(8), 0, -3);
        Twins.refused(DUE, "cell(64)", States::whole, x -> x.cell(64), 0, -3);
        Map<String, ToLongFunction<StepStore>> missing = new LinkedHashMap<>();
        missing.put("word", x -> x.word(States.UNPACKED, 0));
        missing.put("why", x -> x.why(States.UNPACKED, 0));
        missing.put("place", x -> x.place(0, 0));
        missing.put("at", x -> x.at(0, 0));
        missing.put("group", x -> x.group(0));
        missing.put("narrow", x -> x.narrow(0));
        missing.put("restore", x -> x.restore());
        missing.put("row", x -> x.row(0));
        missing.put("copy", x -> x.copy(0, 0, 0));
        missing.forEach((name, call) -> Twins.refused(DUE, name, States::rows, call, -2));
    }

    /** Two rows that are packed, and THE STORE. */
    private static StepStore stored() {
        StepStore x = Acts.row(Acts.set(1, 1), Acts.set(2, 2));
        Acts.give(x, 1, Acts.set(3, 3));
        x.store();
        return x;
    }

    private static void left(String what, Consumer<StepStore> change, boolean word0, boolean word1, boolean store) {
        StepStore x = stored();
        change.accept(x);
        DUE.is(what + ": word(0, 0)", x.word(0, 0), word0 ? 0 : -2);
        DUE.is(what + ": why(0, 0)", x.why(0, 0), word0 ? -1 : -2);
        DUE.is(what + ": word(1, 0)", x.word(1, 0), word1 ? 0 : -2);
        DUE.is(what + ": place(1, 0)", x.place(1, 0), store ? 2 : -2);
        DUE.is(what + ": at(0, 0)", x.at(0, 0), store ? 1 : -2);
        DUE.is(what + ": group(0)", x.group(0), store ? 0 : -2);
        DUE.is(what + ": narrow(2)", x.narrow(2), store ? 1 : -2);
    }

    private static void clearAndGive(StepStore x, int instruction) {
        x.clear(instruction);
        Acts.give(x, instruction, Acts.set(1, 1));
    }

    private static void whatChangesActs() {
        DUE.sentence("What changes ACTS of an INSTRUCTION takes away what was PACKED of it, and THE STORE");
        left("act of 0", x -> x.act(0, 6, 4, 4, 1), false, true, false);
        left("act of 1", x -> x.act(1, 6, 4, 4, 1), true, false, false);
        left("act of another", x -> x.act(5, 6, 4, 4, 1), true, true, false);
        left("clear of 0, acts anew", x -> clearAndGive(x, 0), false, true, false);
        left("clear of 1, acts anew", x -> clearAndGive(x, 1), true, false, false);
        left("a refused act", x -> x.act(0, 6, 8, 4, 1), true, true, true);
        left("a refused clear", x -> x.clear(12), true, true, true);
        left("clear of what has no ACTS", x -> x.clear(5), true, true, true);
        left("what changes numbers", x -> x.set(1, x.run(0, true) + x.poke(0, 9)), true, true, true);
    }

    private static void whatChangesBuses() {
        DUE.sentence("what changes BUSES all that was PACKED, and THE STORE");
        left("buses(2)", x -> x.buses(2), false, false, false);
        left("buses(3)", x -> x.buses(3), false, false, false);
        left("there and back", x -> x.buses(x.buses(2)), false, false, false);
        left("a refused number", x -> x.buses(4), true, true, true);
        left("as many as there are", x -> x.buses(1), true, true, true);
    }

    private static void constants() {
        int[] found = {StepStore.NONE, StepStore.MISSING, StepStore.BEYOND, StepStore.BELOW, StepStore.COPY, StepStore.NO,
            StepStore.FULL};
        String[] names = {"NONE", "MISSING", "BEYOND", "BELOW", "COPY", "NO", "FULL"};
        for (int i = 0; i < names.length; i++) {
            DUE.sentence("The constants: " + names[i] + " = " + (-1 - i));
            DUE.is(names[i], found[i], -1 - i);
        }
    }
}
