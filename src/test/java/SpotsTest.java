import java.util.ArrayList;
import java.util.List;
import java.util.Random;

/** Promises 16 to 18: the BEST ORDER of AGENTS and OUT, against all orders and all choices. */
public final class SpotsTest {
    public static void main(String[] args) {
        notAsTold();
        plainOrders();
        noAgents();
        latestStays();
        for (int seed = 1; seed <= 400; seed++) {
            againstAllOrders(new Random(seed), seed);
        }
        Bench.finish("SpotsTest");
    }

    private static void notAsTold() {
        CoatWorks x = Bench.works("spot s;spot t;agent a 5 s 10;cloth c 1 1;");
        Bench.due("bestAt(0) ahead of any", x.bestAt(0), -1);
        Bench.due("best(-1)", Bench.best(x, -1, 10, 10), -1);
        Bench.due("best(1)", Bench.best(x, 1, 10, 10), -1);
        Bench.due("best of 21", Bench.best(x, 0, 11, 10), -1);
        Bench.due("best of 19", Bench.best(x, 0, 9, 10), -1);
        Bench.due("best of one chance", Bench.best(x, 0, 20), -1);
        Bench.due("best of three chances", Bench.best(x, 0, 10, 10, 0), -1);
        Bench.due("best of none", Bench.best(x, 0), -1);
        Bench.due("best of bytes above 127", Bench.best(x, 0, 255, 21), -1);
        Bench.due("out(-1, 1)", Bench.out(x, -1, 1, 10, 10), -1);
        Bench.due("out(1, 1)", Bench.out(x, 1, 1, 10, 10), -1);
        Bench.due("out(0, -1)", Bench.out(x, 0, -1, 10, 10), -1);
        Bench.due("out(0, 7)", Bench.out(x, 0, 7, 10, 10), -1);
        Bench.due("out of 19", Bench.out(x, 0, 1, 9, 10), -1);
        Bench.due("out(0, 6)", Bench.out(x, 0, 6, 10, 10), 320000000L);
        Bench.due("bestAt(0) still", x.bestAt(0), -1);
        CoatWorks bare = Bench.works("cloth c 1 1;agent a 1;");
        Bench.due("best without spots", Bench.best(bare, 0), -1);
        Bench.due("out without spots", Bench.out(bare, 0, 0), -1);
    }

    private static void plainOrders() {
        CoatWorks x = Bench.works("spot s;agent a 10 s 20;agent b 10 s 20;agent c 9 s 0;cloth k 1 1;cloth l 1 1 not a;");
        long whole = 1280000000L;
        Bench.due("best(0)", Bench.best(x, 0, 20), 10 * whole);
        Bench.due("bestAt(0)", x.bestAt(0), 0);
        Bench.due("bestAt(1), nothing is left to cost", x.bestAt(1), 1);
        Bench.due("bestAt(2)", x.bestAt(2), 2);
        Bench.due("bestAt(3)", x.bestAt(3), -1);
        Bench.due("bestAt(-1)", x.bestAt(-1), -1);
        Bench.due("best(1)", Bench.best(x, 1, 20), 10 * whole);
        Bench.due("bestAt(0)", x.bestAt(0), 1);
        Bench.due("bestAt(1)", x.bestAt(1), 2);
        Bench.due("bestAt(2)", x.bestAt(2), -1);
        Bench.due("out(0, 0)", Bench.out(x, 0, 0, 20), 0);
        Bench.due("out(0, 1)", Bench.out(x, 0, 1, 20), whole);
        CoatWorks z = Bench.works("spot s;agent a 0;agent b 0 s 20;agent c 7 s 1;cloth k 1 1;");
        Bench.due("what costs nothing goes ahead", Bench.best(z, 0, 20), 0);
        Bench.due("of like ones the first by numbers: 0", x.bestAt(0) * 0 + z.bestAt(0), 0);
        Bench.due("of like ones the first by numbers: 1", z.bestAt(1), 1);
        Bench.due("of like ones the first by numbers: 2", z.bestAt(2), 2);
    }

    private static void noAgents() {
        CoatWorks x = Bench.works("spot s;agent a 10 s 20;cloth k 1 1;cloth l 1 1 not a;");
        Bench.due("best(0)", Bench.best(x, 0, 20), 12800000000L);
        Bench.due("bestAt(0)", x.bestAt(0), 0);
        Bench.due("best(1) with none", Bench.best(x, 1, 20), 0);
        Bench.due("bestAt(0) of none", x.bestAt(0), -1);
        Bench.due("out(1, 6) with none", Bench.out(x, 1, 6, 20), 0);
    }

    private static void latestStays() {
        CoatWorks x = Bench.works("spot s;agent a 10 s 5;agent b 1 s 5;cloth k 1 1;");
        Bench.best(x, 0, 20);
        for (int turn = 0; turn < 3; turn++) {
            Bench.due("bestAt(0)", x.bestAt(0), 1);
            Bench.due("bestAt(1)", x.bestAt(1), 0);
            if (turn == 0) {
                Bench.due("best not as told", Bench.best(x, 0, 19), -1);
                Bench.due("out", Bench.out(x, 0, 1, 20), 320000000L);
            } else {
                Bench.due("another house", Bench.house(x, "spot s;cloth k 1 1;"), 2);
            }
        }
    }

    private static void againstAllOrders(Random random, int seed) {
        int spots = 1 + random.nextInt(6);
        int agents = random.nextInt(7);
        StringBuilder text = new StringBuilder();
        for (int s = 0; s < spots; s++) {
            text.append("spot s").append((char) ('a' + s)).append(';');
        }
        int[] cost = new int[agents];
        int[][] chance = new int[agents][spots];
        for (int a = 0; a < agents; a++) {
            cost[a] = random.nextInt(random.nextBoolean() ? 3 : 100);
            text.append("agent a").append((char) ('a' + a)).append(' ').append(cost[a]);
            for (int s = 0; s < spots; s++) {
                if (random.nextInt(3) > 0) {
                    chance[a][s] = random.nextInt(random.nextBoolean() ? 3 : 21);
                    text.append(" s").append((char) ('a' + s)).append(' ').append(chance[a][s]);
                }
            }
            text.append(';');
        }
        text.append("cloth c 1 1");
        List<Integer> usable = new ArrayList<>();
        for (int a = 0; a < agents; a++) {
            if (random.nextInt(4) == 0) {
                text.append(" not a").append((char) ('a' + a));
            } else {
                usable.add(a);
            }
        }
        CoatWorks x = Bench.works(text.append(';').toString());
        int[] stain = new int[spots];
        for (int i = 0; i < 20; i++) {
            stain[random.nextInt(spots)]++;
        }
        Orders orders = new Orders(cost, chance, stain);
        orders.tryAll(usable, new ArrayList<>());
        Bench.due("seed " + seed + " best", Bench.best(x, 0, stain), orders.least);
        for (int i = 0; i < usable.size(); i++) {
            Bench.due("seed " + seed + " bestAt(" + i + ")", x.bestAt(i), orders.best.get(i));
        }
        Bench.due("seed " + seed + " bestAt behind", x.bestAt(usable.size()), -1);
        for (int k = 0; k <= 6; k++) {
            Bench.due("seed " + seed + " out(0, " + k + ")", Bench.out(x, 0, k, stain), orders.most[k]);
        }
    }

    private static final class Orders {
        private final int[] cost;
        private final int[][] chance;
        private final int[] stain;
        long least = -1;
        List<Integer> best = new ArrayList<>();
        long[] most = new long[7];

        Orders(int[] cost, int[][] chance, int[] stain) {
            this.cost = cost;
            this.chance = chance;
            this.stain = stain;
        }

        /** All orders, the first by numbers first. */
        void tryAll(List<Integer> usable, List<Integer> order) {
            for (int k = order.size(); k <= 6; k++) {
                most[k] = Math.max(most[k], 1280000000L - failing(order, order.size()));
            }
            if (order.size() == usable.size()) {
                long sum = 0;
                for (int i = 0; i < order.size(); i++) {
                    sum += cost[order.get(i)] * failing(order, i);
                }
                if (least < 0 || sum < least) {
                    least = sum;
                    best = new ArrayList<>(order);
                }
                return;
            }
            for (int a : usable) {
                if (!order.contains(a)) {
                    order.add(a);
                    tryAll(usable, order);
                    order.remove(order.size() - 1);
                }
            }
        }

        private long failing(List<Integer> order, int many) {
            long sum = 0;
            for (int s = 0; s < stain.length; s++) {
                long parts = stain[s] * 64000000L;
                for (int i = 0; i < many; i++) {
                    parts = parts / 20 * (20 - chance[order.get(i)][s]);
                }
                sum += parts;
            }
            return sum;
        }
    }
}
