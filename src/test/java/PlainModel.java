import java.util.ArrayList;
import java.util.HashMap;
import java.util.HashSet;
import java.util.LinkedHashMap;
import java.util.List;
import java.util.Map;
import java.util.Set;

/** A second reading of the document, as near to its words as can be and without any care for speed. */
final class PlainModel {
    /** Things are named: r0 .. r7, f0, f1, cells. */
    record Act(int kind, int d, int x, int y) {
        boolean has(char which) {
            return switch (which) {
                case 'd' -> kind <= 7;
                case 'x' -> true;
                default -> kind >= 2 && kind != 7;
            };
        }

        Set<String> reads() {
            Set<String> things = new HashSet<>();
            if (kind >= 1 && kind <= 8) {
                things.add("r" + x);
            }
            if (kind >= 2 && kind <= 5 || kind == 8) {
                things.add("r" + y);
            }
            if (kind == 7) {
                things.add("cells");
            }
            if (kind >= 9) {
                things.add("f" + x);
            }
            return things;
        }

        Set<String> writes() {
            Set<String> things = new HashSet<>();
            if (kind <= 7) {
                things.add("r" + d);
            }
            if (kind >= 2 && kind <= 5) {
                things.add("f0");
                things.add("f1");
            }
            if (kind == 8) {
                things.add("cells");
            }
            return things;
        }

        boolean traps() {
            return Set.of(7, 8, 10).contains(kind);
        }

        int part() {
            return kind <= 1 ? 0 : kind <= 5 ? 1 : kind == 6 ? 2 : kind <= 8 ? 3 : 4;
        }
    }

    record Word(List<Act> acts, int next) { }

    final Map<Integer, Integer> refusals = new HashMap<>();
    final int[] widths = {16, 16, 16, 16, 16, 16, 16, 16};
    Map<String, Long> things = new LinkedHashMap<>();
    Map<String, Long> image;
    final List<List<Act>> rows = new ArrayList<>();
    final List<List<Integer>> packed = new ArrayList<>();
    int buses = 1;
    List<Word> store;
    List<List<Integer>> placesOf;
    final int[] told = {0, 0, -1};
    final int[] table = new int[16];
    final int[] counts = new int[3];
    List<Integer> line;

    PlainModel() {
        for (int r = 0; r < 8; r++) {
            things.put("r" + r, 0L);
        }
        things.put("f0", 0L);
        things.put("f1", 0L);
        for (int c = 0; c < 64; c++) {
            things.put("c" + c, 0L);
        }
        for (int i = 0; i < 12; i++) {
            rows.add(new ArrayList<>());
            packed.add(null);
        }
        java.util.Arrays.fill(table, -1);
    }

    private int no(int by) {
        refusals.merge(by, 1, Integer::sum);
        return by;
    }

    private static boolean within(int v, int from, int to) {
        return v >= from && v <= to;
    }

    private boolean isAct(int instruction, int i) {
        return within(instruction, 0, 11) && within(i, 0, rows.get(instruction).size() - 1);
    }

    private long cut(String thing, long v) {
        int bits = thing.startsWith("r") ? widths[Integer.parseInt(thing.substring(1))] : 32;
        return Math.floorMod(v, 1L << bits);
    }

    private int give(String thing, long v) {
        long before = things.put(thing, cut(thing, v));
        return before == things.get(thing) ? 0 : 1;
    }

    int width(int register, int w) {
        if (!within(register, 0, 7)) {
            return no(-3);
        }
        if (!within(w, 1, 32)) {
            return no(-6);
        }
        int before = widths[register];
        widths[register] = w;
        give("r" + register, things.get("r" + register));
        return before;
    }

    int set(int register, long v) {
        return within(register, 0, 7) ? give("r" + register, v) : no(-3);
    }

    long register(int register) {
        if (!within(register, 0, 7)) {
            no(-3);
            return 0;
        }
        return things.get("r" + register);
    }

    int poke(int cell, long v) {
        return within(cell, 0, 63) ? give("c" + cell, v) : no(-3);
    }

    long cell(int cell) {
        if (!within(cell, 0, 63)) {
            no(-3);
            return 0;
        }
        return things.get("c" + cell);
    }

    int flag(int flag, boolean is) {
        if (!within(flag, 0, 1)) {
            return no(-3);
        }
        return things.put("f" + flag, is ? 1L : 0L).intValue();
    }

    int flags() {
        return (int) (things.get("f0") + 2 * things.get("f1"));
    }

    int act(int instruction, int kind, int d, int x, int y) {
        if (!within(instruction, 0, 11)) {
            return no(-3);
        }
        if (!within(kind, 0, 10)) {
            return no(-6);
        }
        Act act = new Act(kind, d, x, y);
        boolean fine = !act.has('d') || within(d, 0, 7);
        fine &= within(x, 0, kind == 0 ? 255 : kind >= 9 ? 1 : 7);
        if (act.has('y')) {
            fine &= kind == 6 ? within(y, -31, 31) : within(y, 0, kind >= 9 ? 1 : 7);
        }
        if (!fine) {
            return no(-6);
        }
        if (rows.get(instruction).size() == 10) {
            return no(-7);
        }
        rows.get(instruction).add(new Act(kind, act.has('d') ? d : -1, x, act.has('y') ? y : -1));
        packed.set(instruction, null);
        store = null;
        return rows.get(instruction).size();
    }

    int clear(int instruction) {
        if (!within(instruction, 0, 11)) {
            return no(-3);
        }
        int before = rows.get(instruction).size();
        if (before != 0) {
            rows.get(instruction).clear();
            packed.set(instruction, null);
            store = null;
        }
        return before;
    }

    int look(int instruction, int i, int what) {
        if (!isAct(instruction, i)) {
            return no(-3);
        }
        Act act = rows.get(instruction).get(i);
        return switch (what) {
            case 0 -> act.kind;
            case 1 -> act.d;
            case 2 -> act.x;
            case 3 -> act.y;
            case 4 -> act.part();
            case 5 -> act.traps() ? 1 : 0;
            default -> no(-6);
        };
    }

    int buses(int n) {
        if (!within(n, 1, 3)) {
            return no(-6);
        }
        int before = buses;
        if (n != before) {
            buses = n;
            for (int i = 0; i < 12; i++) {
                packed.set(i, null);
            }
            store = null;
        }
        return before;
    }

    private static boolean meet(Set<String> a, Set<String> b) {
        return a.stream().anyMatch(b::contains);
    }

    static int need(Act a, Act b) {
        if (meet(a.writes(), b.reads()) || meet(a.writes(), b.writes()) || a.kind == 9
                || a.traps() && !b.writes().isEmpty() || a.traps() && b.traps()) {
            return 2;
        }
        return meet(a.reads(), b.writes()) || b.kind == 9 ? 1 : 0;
    }

    int needs(int instruction, int i, int j) {
        if (!isAct(instruction, i) || !isAct(instruction, j)) {
            return no(-3);
        }
        if (j <= i) {
            return no(-6);
        }
        return need(rows.get(instruction).get(i), rows.get(instruction).get(j));
    }

    /** The word of each act; from the full set down, how few words the rest needs at least. */
    static List<Integer> packOf(List<Act> row, int buses) {
        int n = row.size();
        int full = (1 << n) - 1;
        int[][] need = new int[n][n];
        for (int a = 0; a < n; a++) {
            for (int b = a + 1; b < n; b++) {
                need[a][b] = need(row.get(a), row.get(b));
            }
        }
        int[] best = new int[full + 1];
        for (int done = full - 1; done >= 0; done--) {
            best[done] = 99;
            for (int more = full & ~done; more > 0; more = more - 1 & ~done & full) {
                if (canBeWord(row, need, done, more, buses)) {
                    best[done] = Math.min(best[done], 1 + best[done | more]);
                }
            }
        }
        List<Integer> words = new ArrayList<>();
        row.forEach(act -> words.add(-1));
        int done = 0;
        for (int word = 0; done != full; word++) {
            int set = 1;
            while ((set & done) != 0 || !canBeWord(row, need, done, set, buses)
                    || best[done | set] != best[done] - 1) {
                set++;
            }
            for (int i = 0; i < n; i++) {
                if ((set >> i & 1) == 1) {
                    words.set(i, word);
                }
            }
            done |= set;
        }
        return words;
    }

    private static boolean canBeWord(List<Act> row, int[][] need, int done, int set, int buses) {
        int[] rooms = {buses, 1, 1, 1, 1};
        for (int b = 0; b < row.size(); b++) {
            if ((set >> b & 1) == 0) {
                continue;
            }
            if (--rooms[row.get(b).part()] < 0) {
                return false;
            }
            for (int a = 0; a < b; a++) {
                boolean isDone = (done >> a & 1) == 1;
                boolean isHere = (set >> a & 1) == 1;
                if (need[a][b] == 2 && !isDone || need[a][b] == 1 && !isDone && !isHere) {
                    return false;
                }
            }
        }
        return true;
    }

    private List<Integer> packing(int instruction) {
        if (packed.get(instruction) == null) {
            packed.set(instruction, packOf(rows.get(instruction), buses));
        }
        return packed.get(instruction);
    }

    private static int lengthOf(List<Integer> packing) {
        return packing.stream().mapToInt(w -> w + 1).max().orElse(0);
    }

    int pack(int instruction) {
        return within(instruction, 0, 11) ? lengthOf(packing(instruction)) : no(-3);
    }

    int word(int instruction, int i) {
        if (!isAct(instruction, i)) {
            return no(-3);
        }
        return packed.get(instruction) == null ? no(-2) : packed.get(instruction).get(i);
    }

    int why(int instruction, int i) {
        if (!isAct(instruction, i)) {
            return no(-3);
        }
        List<Integer> words = packed.get(instruction);
        if (words == null) {
            return no(-2);
        }
        for (int a = 0; a < i; a++) {
            int need = need(rows.get(instruction).get(a), rows.get(instruction).get(i));
            if (need > 0 && words.get(a) + need - 1 == words.get(i)) {
                return a;
            }
        }
        return -1;
    }

    private List<Act> actsOf(int instruction, int word) {
        List<Act> acts = new ArrayList<>();
        for (int i = 0; i < rows.get(instruction).size(); i++) {
            if (packing(instruction).get(i) == word) {
                acts.add(rows.get(instruction).get(i));
            }
        }
        return acts;
    }

    int store() {
        store = new ArrayList<>();
        placesOf = new ArrayList<>();
        for (int instruction = 0; instruction < 12; instruction++) {
            List<Integer> places = new ArrayList<>();
            int next = -1;
            for (int w = lengthOf(packing(instruction)) - 1; w >= 0; w--) {
                Word word = new Word(actsOf(instruction, w), next);
                if (!store.contains(word)) {
                    store.add(word);
                }
                next = store.indexOf(word);
                places.add(0, next);
            }
            placesOf.add(places);
        }
        return store.size();
    }

    int place(int instruction, int i) {
        if (!within(instruction, 0, 11)) {
            return no(-3);
        }
        if (store == null) {
            return no(-2);
        }
        List<Integer> places = placesOf.get(instruction);
        return within(i, 0, places.size() - 1) ? places.get(i) : no(-3);
    }

    int at(int place, int what) {
        if (store == null) {
            return no(-2);
        }
        if (!within(place, 0, store.size() - 1)) {
            return no(-3);
        }
        return switch (what) {
            case 0 -> store.get(place).acts.size();
            case 1 -> store.get(place).next;
            case 2 -> (int) placesOf.stream().filter(places -> places.contains(place)).count();
            default -> no(-6);
        };
    }

    /** By field: its act in each word that has one there. */
    private List<Map<Integer, Act>> fields() {
        List<Map<Integer, Act>> fields = new ArrayList<>();
        for (int f = 0; f < 7; f++) {
            fields.add(new HashMap<>());
        }
        for (int place = 0; place < store.size(); place++) {
            int bus = 0;
            for (Act act : store.get(place).acts) {
                int field = act.part() == 0 ? bus++ : act.part() + 2;
                fields.get(field).put(place, act);
            }
        }
        return fields;
    }

    private List<List<Integer>> groups() {
        List<Map<Integer, Act>> fields = fields();
        List<List<Integer>> groups = new ArrayList<>();
        for (int f = 0; f < 7; f++) {
            Map<Integer, Act> mine = fields.get(f);
            if (mine.isEmpty()) {
                continue;
            }
            List<Integer> home = null;
            for (List<Integer> group : groups) {
                boolean free = group.stream()
                        .noneMatch(g -> fields.get(g).keySet().stream().anyMatch(mine::containsKey));
                if (free && home == null) {
                    home = group;
                }
            }
            if (home == null) {
                home = new ArrayList<>();
                groups.add(home);
            }
            home.add(f);
        }
        return groups;
    }

    int group(int field) {
        if (!within(field, 0, 6)) {
            return no(-3);
        }
        if (store == null) {
            return no(-2);
        }
        List<List<Integer>> groups = groups();
        for (int g = 0; g < groups.size(); g++) {
            if (groups.get(g).contains(field)) {
                return g;
            }
        }
        return -1;
    }

    private static int bits(int most) {
        return 32 - Integer.numberOfLeadingZeros(most);
    }

    int narrow(int what) {
        if (store == null) {
            return no(-2);
        }
        List<Map<Integer, Act>> fields = fields();
        int bits = bits(store.size());
        for (List<Integer> group : groups()) {
            bits += bits(group.stream().mapToInt(f -> new HashSet<>(fields.get(f).values()).size()).sum());
        }
        return switch (what) {
            case 0 -> bits;
            case 1 -> bits * store.size();
            case 2 -> groups().size();
            case 3 -> fields.stream().mapToInt(f -> new HashSet<>(f.values()).size()).sum();
            default -> no(-6);
        };
    }

    /** What the act writes, from what there is in "from"; null if it traps. */
    private Map<String, Long> writesOf(Act act, Map<String, Long> from) {
        Map<String, Long> writes = new LinkedHashMap<>();
        String d = "r" + act.d;
        long x = act.kind == 0 ? act.x : act.kind < 9 ? from.get("r" + act.x) : from.get("f" + act.x);
        long y = act.kind == 6 ? act.y : act.kind < 9 && act.has('y') ? from.get("r" + act.y) : act.y;
        switch (act.kind) {
            case 0, 1 -> writes.put(d, cut(d, x));
            case 2, 3, 4, 5 -> {
                long gets = act.kind == 2 ? x + y : act.kind == 3 ? x - y : act.kind == 4 ? x & y : x ^ y;
                boolean top = act.kind == 2 && gets > (1L << widths[act.d]) - 1 || act.kind == 3 && y > x;
                writes.put(d, cut(d, gets));
                writes.put("f0", cut(d, gets) == 0 ? 1L : 0L);
                writes.put("f1", top ? 1L : 0L);
            }
            case 6 -> writes.put(d, cut(d, y >= 0 ? x * (1L << y) : x / (1L << -y)));
            case 7 -> {
                if (x > 63) {
                    return null;
                }
                writes.put(d, cut(d, from.get("c" + x)));
            }
            case 8 -> {
                if (x > 63) {
                    return null;
                }
                writes.put("c" + x, y);
            }
            case 10 -> {
                if (x == y) {
                    return null;
                }
            }
            default -> { }
        }
        return writes;
    }

    /** Words of acts by their numbers; how it ended, and what is told of it. */
    private int perform(int instruction, List<List<Integer>> words, int[] tell, boolean plain) {
        Map<String, Long> ahead = new LinkedHashMap<>(things);
        tell[0] = 0;
        tell[1] = 0;
        tell[2] = -1;
        for (List<Integer> word : words) {
            Map<String, Long> from = new LinkedHashMap<>(things);
            boolean skips = false;
            tell[0] += word.size();
            tell[1] += plain ? 0 : 1;
            for (int i : word) {
                Act act = rows.get(instruction).get(i);
                Map<String, Long> writes = writesOf(act, from);
                if (writes == null) {
                    tell[2] = tell[2] == -1 ? i : Math.min(i, tell[2]);
                } else {
                    things.putAll(writes);
                }
                skips |= act.kind == 9 && from.get("f" + act.x) == act.y;
            }
            if (tell[2] != -1) {
                things = ahead;
                return 2;
            }
            if (skips) {
                return 1;
            }
        }
        return 0;
    }

    private int perform(int instruction, boolean byWords, int[] tell) {
        List<List<Integer>> words = new ArrayList<>();
        for (int i = 0; i < rows.get(instruction).size(); i++) {
            int w = byWords ? packing(instruction).get(i) : i;
            while (words.size() <= w) {
                words.add(new ArrayList<>());
            }
            words.get(w).add(i);
        }
        if (byWords) {
            packing(instruction);
        }
        return perform(instruction, words, tell, !byWords);
    }

    int run(int instruction, boolean words) {
        return within(instruction, 0, 11) ? perform(instruction, words, told) : no(-3);
    }

    int told(int what) {
        return within(what, 0, 2) ? told[what] : no(-6);
    }

    int beside(int instruction) {
        if (!within(instruction, 0, 11)) {
            return no(-3);
        }
        List<Integer> packing = packed.get(instruction);
        Map<String, Long> ahead = things;
        things = new LinkedHashMap<>(ahead);
        int one = perform(instruction, true, new int[3]);
        Map<String, Long> end = things;
        things = new LinkedHashMap<>(ahead);
        int other = perform(instruction, false, new int[3]);
        boolean alike = one == other && end.equals(things);
        things = ahead;
        packed.set(instruction, packing);
        return alike ? 0 : 1;
    }

    int code(int code, int instruction) {
        if (!within(code, 0, 15) || !within(instruction, -1, 11)) {
            return no(-3);
        }
        int before = table[code];
        table[code] = instruction;
        return before;
    }

    int step(int n) {
        if (n < 0) {
            return no(-4);
        }
        if (!within(n, 1, 1000)) {
            return no(-6);
        }
        for (int done = 0; done < n; done++) {
            long pc = things.get("r7");
            if (pc > 63) {
                counts[2] = 1;
                return done;
            }
            int instruction = table[(int) (things.get("c" + pc) % 16)];
            if (instruction == -1) {
                counts[2] = 2;
                return done;
            }
            give("r7", pc + 1);
            counts[0]++;
            if (perform(instruction, true, told) == 2) {
                counts[1]++;
            }
        }
        counts[2] = 0;
        return n;
    }

    int count(int what) {
        return within(what, 0, 2) ? counts[what] : no(-6);
    }

    int image() {
        image = new LinkedHashMap<>(things);
        return (int) image.values().stream().filter(v -> v != 0).count();
    }

    int restore() {
        if (image == null) {
            return no(-2);
        }
        int others = 0;
        for (Map.Entry<String, Long> entry : image.entrySet()) {
            others += give(entry.getKey(), entry.getValue());
        }
        return others;
    }

    int lay(int from, int n) {
        if (n < 0) {
            return no(-4);
        }
        if (from < 0 || (long) from + n > 64) {
            return no(-3);
        }
        line = new ArrayList<>();
        for (int c = from; c < from + n; c++) {
            line.add((int) (short) things.get("c" + c).longValue());
        }
        return n;
    }

    int tear() {
        int was = line == null ? 0 : 1;
        line = null;
        return was;
    }

    int row(int i) {
        if (line == null) {
            return no(-2);
        }
        return within(i, 0, line.size() - 1) ? line.get(i) : no(-3);
    }

    int copy(int i, int j, int n) {
        if (line == null) {
            return no(-2);
        }
        if (n < 0) {
            return no(-4);
        }
        if (i < 0 || j < 0 || (long) i + n > line.size() || (long) j + n > line.size()) {
            return no(-5);
        }
        List<Integer> before = new ArrayList<>(line);
        for (int k = 0; k < n; k++) {
            line.set(j + k, before.get(i + k));
        }
        return n;
    }

    int status(int by) {
        return within(by, -7, -2) ? refusals.getOrDefault(by, 0) : no(-6);
    }
}
