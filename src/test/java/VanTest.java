import java.util.Arrays;
import java.util.Random;

/** Promises 37 to 39: the VAN's ROUND, against all orders. */
public final class VanTest {
    public static void main(String[] args) {
        places();
        notAsTold();
        likeOnes();
        latestStays();
        for (int seed = 1; seed <= 300; seed++) {
            againstAllOrders(new Random(seed), seed, 1 + seed % 7);
        }
        againstAllOrders(new Random(1), 1, 9);
        againstAllOrders(new Random(2), 2, 8);
        Bench.finish("VanTest");
    }

    private static void places() {
        CoatWorks x = new CoatWorks();
        int[][] wrong = {{-1, 1, 1}, {40, 1, 1}, {0, -1, 1}, {0, 100, 1}, {0, 1, -1}, {0, 1, 100},
            {Integer.MAX_VALUE, 1, 1}, {0, Integer.MIN_VALUE, 1}};
        for (int[] p : wrong) {
            Bench.due("place" + Arrays.toString(p), x.place(p[0], p[1], p[2]), false);
        }
        Bench.due("a counter is at 0, 0 till told", Bench.round(x, 39), 200);
        Bench.due("roundAt(0)", x.roundAt(0), 39);
        Bench.due("place(39, 99, 0)", x.place(39, 99, 0), true);
        Bench.due("round", Bench.round(x, 39), 2 * (49 + 50));
        Bench.due("place(39, 50, 50)", x.place(39, 50, 50), true);
        Bench.due("round at home", Bench.round(x, 39), 0);
        Bench.due("place(0, 0, 99)", x.place(0, 0, 99), true);
        Bench.due("round of both", Bench.round(x, 39, 0), 198);
    }

    private static void notAsTold() {
        CoatWorks x = new CoatWorks();
        Bench.due("roundAt(0) ahead of any", x.roundAt(0), -1);
        int[][] wrong = {{}, {40}, {255}, {3, 3}, {0, 1, 2, 0}, {0, 1, 2, 3, 4, 5, 6, 7, 8, 9}};
        for (int[] tape : wrong) {
            Bench.due("round of " + Arrays.toString(tape), Bench.round(x, tape), -1);
        }
        Bench.due("roundAt(0) still", x.roundAt(0), -1);
    }

    private static void likeOnes() {
        CoatWorks x = new CoatWorks();
        Bench.due("round of like places", Bench.round(x, 5, 3, 9), 200);
        Bench.due("as told: 0", x.roundAt(0), 5);
        Bench.due("as told: 1", x.roundAt(1), 3);
        Bench.due("as told: 2", x.roundAt(2), 9);
        Bench.due("roundAt(3)", x.roundAt(3), -1);
        Bench.due("roundAt(-1)", x.roundAt(-1), -1);
        x.place(1, 40, 50);
        x.place(2, 60, 50);
        Bench.due("one on each side", Bench.round(x, 2, 1), 40);
        Bench.due("as told", x.roundAt(0), 2);
        Bench.due("one on each side", Bench.round(x, 1, 2), 40);
        Bench.due("as told", x.roundAt(0), 1);
    }

    private static void latestStays() {
        CoatWorks x = new CoatWorks();
        x.place(1, 40, 50);
        Bench.round(x, 7, 1);
        for (int turn = 0; turn < 3; turn++) {
            Bench.due("roundAt(0)", x.roundAt(0), 7);
            Bench.due("roundAt(1)", x.roundAt(1), 1);
            Bench.due("roundAt(2)", x.roundAt(2), -1);
            if (turn == 0) {
                Bench.due("round not as told", Bench.round(x, 3, 3), -1);
            } else {
                Bench.due("a new house", Bench.house(x, "spot a;"), 1);
            }
        }
    }

    private static void againstAllOrders(Random random, int seed, int n) {
        CoatWorks x = new CoatWorks();
        int[][] at = new int[40][2];
        int grid = random.nextBoolean() ? 100 : 5;
        for (int c = 0; c < 40; c++) {
            if (random.nextInt(5) > 0) {
                at[c][0] = (grid == 5 ? 48 : 0) + random.nextInt(grid);
                at[c][1] = (grid == 5 ? 48 : 0) + random.nextInt(grid);
                x.place(c, at[c][0], at[c][1]);
            }
        }
        int[] tape = new int[n];
        for (int i = 0; i < n; i++) {
            boolean isNew;
            do {
                tape[i] = random.nextInt(40);
                isNew = true;
                for (int j = 0; j < i; j++) {
                    isNew &= tape[j] != tape[i];
                }
            } while (!isNew);
        }
        Orders orders = new Orders(tape, at);
        orders.go(0, 0, 50, 50, 0);
        String call = "seed " + seed + " " + Arrays.toString(tape);
        Bench.due(call + " round", Bench.round(x, tape), orders.least);
        for (int i = 0; i <= n; i++) {
            Bench.due(call + " roundAt(" + i + ")", x.roundAt(i), i < n ? orders.best[i] : -1);
        }
    }

    private static final class Orders {
        private final int[] tape;
        private final int[][] at;
        private final int[] order;
        int[] best;
        int least = Integer.MAX_VALUE;

        Orders(int[] tape, int[][] at) {
            this.tape = tape;
            this.at = at;
            order = new int[tape.length];
        }

        void go(int depth, int seen, int x, int y, int length) {
            if (depth == tape.length) {
                int whole = length + Math.abs(x - 50) + Math.abs(y - 50);
                if (whole < least) {
                    least = whole;
                    best = order.clone();
                }
                return;
            }
            for (int i = 0; i < tape.length; i++) {
                if ((seen >> i & 1) == 0) {
                    int[] to = at[tape[i]];
                    order[depth] = tape[i];
                    go(depth + 1, seen | 1 << i, to[0], to[1], length + Math.abs(to[0] - x) + Math.abs(to[1] - y));
                }
            }
        }
    }
}
