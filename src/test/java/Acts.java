/** Acts by the names that the document gives their kinds, and rows of them. */
final class Acts {
    private Acts() {
    }

    static int[] set(int d, int x) {
        return new int[] {0, d, x, 0};
    }

    static int[] move(int d, int x) {
        return new int[] {1, d, x, 0};
    }

    static int[] add(int d, int x, int y) {
        return new int[] {2, d, x, y};
    }

    static int[] shift(int d, int x, int y) {
        return new int[] {6, d, x, y};
    }

    static int[] fetch(int d, int x) {
        return new int[] {7, d, x, 0};
    }

    static int[] store(int x, int y) {
        return new int[] {8, 0, x, y};
    }

    static int[] skip(int flag, int y) {
        return new int[] {9, 0, flag, y};
    }

    static int[] check(int flag, int y) {
        return new int[] {10, 0, flag, y};
    }

    /** The acts come to the instruction; the latest answer of act(). */
    static int give(StepStore x, int instruction, int[]... acts) {
        int answer = 0;
        for (int[] a : acts) {
            answer = x.act(instruction, a[0], a[1], a[2], a[3]);
        }
        return answer;
    }

    /** A new object whose instruction 0 has the acts. */
    static StepStore row(int[]... acts) {
        StepStore x = new StepStore();
        give(x, 0, acts);
        return x;
    }
}
