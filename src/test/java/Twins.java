import java.util.ArrayList;
import java.util.LinkedHashMap;
import java.util.List;
import java.util.Map;
import java.util.function.Consumer;
import java.util.function.IntFunction;
import java.util.function.ToLongFunction;

/**
 * "A refused call changes nothing but status()": of two objects that had the same calls one gets a call that
 * is refused; behind it all that can be seen of the two is alike, but for the one refusal in status().
 */
final class Twins {
    private static final Map<String, Consumer<Seen>> VIEWS = new LinkedHashMap<>();

    static {
        VIEWS.put("numbers", Twins::numbers);
        VIEWS.put("rows", Twins::rows);
        VIEWS.put("words", Twins::words);
        VIEWS.put("doing", Twins::doing);
    }

    /** An object with the answers that it gave. */
    private static final class Seen {
        final StepStore x = new StepStore();
        final List<Long> answers = new ArrayList<>();

        void add(long answer) {
            answers.add(answer);
        }
    }

    private Twins() {
    }

    static void refused(Due due, String what, Consumer<StepStore> state, ToLongFunction<StepStore> call, int by) {
        refused(due, what, state, call, by, by);
    }

    /** For register() and cell(), which answer 0 and leave it to status() to tell of the refusal. */
    static void refused(Due due, String what, Consumer<StepStore> state, ToLongFunction<StepStore> call,
            long answer, int by) {
        for (Map.Entry<String, Consumer<Seen>> view : VIEWS.entrySet()) {
            Seen one = new Seen();
            Seen other = new Seen();
            state.accept(one.x);
            state.accept(other.x);
            due.is(what, call.applyAsLong(one.x), answer);
            statuses(due, what, one.x, other.x, by);
            view.getValue().accept(one);
            view.getValue().accept(other);
            due.holds(what + " left the " + view.getKey() + " as they were", one.answers.equals(other.answers));
        }
    }

    /** The call is not refused: it answers so, and status() tells of nothing. */
    static void taken(Due due, String what, Consumer<StepStore> state, ToLongFunction<StepStore> call, long answer) {
        StepStore one = new StepStore();
        StepStore other = new StepStore();
        state.accept(one);
        state.accept(other);
        due.is(what, call.applyAsLong(one), answer);
        statuses(due, what, one, other, 0);
    }

    private static void statuses(Due due, String what, StepStore one, StepStore other, int by) {
        for (int b = -7; b <= -2; b++) {
            due.is(what + ", then status(" + b + "), more than before", one.status(b) - other.status(b), b == by ? 1 : 0);
        }
    }

    /** The numbers beside a range, and the ends of int, are refused. */
    static void outside(Due due, String what, Consumer<StepStore> state, int least, int most, int by,
            IntFunction<ToLongFunction<StepStore>> call) {
        for (int v : new int[] {least - 1, most + 1, Integer.MIN_VALUE, Integer.MAX_VALUE}) {
            refused(due, what + " " + v, state, call.apply(v), by);
        }
    }

    private static void inside(Seen s) {
        for (int r = 0; r < 8; r++) {
            s.add(s.x.register(r));
        }
        for (int c = 0; c < 64; c++) {
            s.add(s.x.cell(c));
        }
        s.add(s.x.flags());
    }

    private static void counters(Seen s) {
        for (int what = 0; what < 3; what++) {
            s.add(s.x.told(what));
            s.add(s.x.count(what));
        }
    }

    /** What can only be seen by changing it comes last. */
    private static void numbers(Seen s) {
        inside(s);
        counters(s);
        for (int i = 0; i <= 64; i++) {
            s.add(s.x.row(i));
        }
        s.add(s.x.restore());
        inside(s);
        s.add(s.x.tear());
        for (int c = 0; c < 16; c++) {
            s.add(s.x.code(c, -1));
        }
        for (int r = 0; r < 8; r++) {
            s.add(s.x.width(r, 1));
        }
        s.add(s.x.buses(1));
    }

    private static void rows(Seen s) {
        for (int instruction = 0; instruction < 12; instruction++) {
            int i = 0;
            while (s.x.look(instruction, i, 0) >= 0) {
                for (int what = 0; what < 6; what++) {
                    s.add(s.x.look(instruction, i, what));
                }
                if (i > 0) {
                    s.add(s.x.needs(instruction, i - 1, i));
                }
                i++;
            }
            s.add(i);
            s.add(s.x.clear(instruction));
        }
    }

    private static void words(Seen s) {
        for (int instruction = 0; instruction < 12; instruction++) {
            for (int i = 0; s.x.look(instruction, i, 0) >= 0; i++) {
                s.add(s.x.word(instruction, i));
                s.add(s.x.why(instruction, i));
                s.add(s.x.place(instruction, i));
            }
        }
        for (int place = 0; place < 30; place++) {
            for (int what = 0; what < 3; what++) {
                s.add(s.x.at(place, what));
            }
        }
        for (int field = 0; field < 7; field++) {
            s.add(s.x.group(field));
        }
        for (int what = 0; what < 4; what++) {
            s.add(s.x.narrow(what));
        }
    }

    private static void doing(Seen s) {
        for (int instruction = 0; instruction < 12; instruction++) {
            s.add(s.x.beside(instruction));
            s.add(s.x.run(instruction, instruction % 2 == 0));
            counters(s);
        }
        s.add(s.x.step(40));
        counters(s);
        inside(s);
    }
}
