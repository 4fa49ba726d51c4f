import java.util.ArrayList;
import java.util.List;
import java.util.Random;

/** Promises 13 to 16: packings against all ways there are, and long rows against the model's. */
public final class PackTest {
    private static final Due DUE = new Due("PackTest");
    private static final Random RANDOM = new Random(14);

    public static void main(String[] args) {
        DUE.promise(14);
        for (int turn = 0; turn < 3000 && DUE.isClean(); turn++) {
            List<PlainModel.Act> row = someRow(RANDOM.nextInt(7), 1 + RANDOM.nextInt(8));
            int buses = 1 + RANDOM.nextInt(3);
            compare(row, buses, leastOfAll(row, buses));
        }
        for (int turn = 0; turn < 1500 && DUE.isClean(); turn++) {
            List<PlainModel.Act> row = someRow(7 + RANDOM.nextInt(4), 1 + RANDOM.nextInt(8));
            int buses = 1 + RANDOM.nextInt(3);
            compare(row, buses, PlainModel.packOf(row, buses));
        }
        DUE.end();
    }

    /** Registers from the lowest ones only, if "spread" is low, so that acts need one another more. */
    private static List<PlainModel.Act> someRow(int length, int spread) {
        List<PlainModel.Act> row = new ArrayList<>();
        int[] likely = {0, 1, 6, 6, 1, 0};
        for (int i = 0; i < length; i++) {
            int kind = RANDOM.nextBoolean() ? RANDOM.nextInt(11) : likely[RANDOM.nextInt(likely.length)];
            int d = kind <= 7 ? RANDOM.nextInt(spread) : -1;
            int x = kind >= 9 ? RANDOM.nextInt(2) : RANDOM.nextInt(spread);
            int y = kind < 2 || kind == 7 ? -1 : kind >= 9 ? RANDOM.nextInt(2) : RANDOM.nextInt(spread);
            row.add(new PlainModel.Act(kind, d, x, y));
        }
        return row;
    }

    private static void compare(List<PlainModel.Act> row, int buses, List<Integer> want) {
        StepStore x = new StepStore();
        x.buses(buses);
        for (PlainModel.Act act : row) {
            x.act(0, act.kind(), act.d(), act.x(), act.y());
        }
        int words = want.stream().mapToInt(w -> w + 1).max().orElse(0);
        DUE.is("pack of " + row + " with " + buses, x.pack(0), words);
        for (int i = 0; i < row.size(); i++) {
            DUE.is("word " + i + " of " + row + " with " + buses, x.word(0, i), want.get(i));
        }
    }

    /** Goes through every way to give words to the acts. */
    private static List<Integer> leastOfAll(List<PlainModel.Act> row, int buses) {
        int n = row.size();
        for (int words = 0; words <= n; words++) {
            int[] best = null;
            int[] way = new int[n];
            int ways = (int) Math.pow(words, n);
            for (int number = 0; number < ways; number++) {
                int rest = number;
                for (int i = 0; i < n; i++) {
                    way[i] = rest % words;
                    rest /= words;
                }
                if (isWay(row, buses, way) && (best == null || isLess(way, best, words))) {
                    best = way.clone();
                }
            }
            if (best != null) {
                List<Integer> list = new ArrayList<>();
                for (int word : best) {
                    list.add(word);
                }
                return list;
            }
        }
        return List.of();
    }

    private static boolean isWay(List<PlainModel.Act> row, int buses, int[] way) {
        for (int b = 0; b < way.length; b++) {
            int beside = 1;
            for (int a = 0; a < b; a++) {
                int need = PlainModel.need(row.get(a), row.get(b));
                if (need == 2 && way[b] <= way[a] || need == 1 && way[b] < way[a]) {
                    return false;
                }
                if (way[a] == way[b] && row.get(a).part() == row.get(b).part()) {
                    beside++;
                }
            }
            if (beside > (row.get(b).part() == 0 ? buses : 1)) {
                return false;
            }
        }
        return true;
    }

    private static boolean isLess(int[] way, int[] other, int words) {
        for (int word = 0; word < words; word++) {
            int mine = 0;
            int its = 0;
            for (int i = 0; i < way.length; i++) {
                mine |= way[i] == word ? 1 << i : 0;
                its |= other[i] == word ? 1 << i : 0;
            }
            if (mine != its) {
                return mine < its;
            }
        }
        return false;
    }
}
