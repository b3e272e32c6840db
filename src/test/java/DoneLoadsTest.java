import java.util.ArrayList;
import java.util.List;
import java.util.Random;

/** Promises 23 to 26: DRUMS of LOADS, RUN and RECALL. */
public final class DoneLoadsTest {
    private static final String HOUSE = "cloth c 5 10 bleeds;cloth d 5 10;drum p 9 3;drum q 9 7;drum r 9 0;drum s 9 9;";
    private static final int[] DRUM_HEAT = {3, 7, 0, 9};

    public static void main(String[] args) {
        drums();
        runs();
        recalls();
        for (int seed = 1; seed <= 200; seed++) {
            againstPlainSearch(new Random(seed), seed);
        }
        Bench.finish("DoneLoadsTest");
    }

    private static void drums() {
        CoatWorks x = Bench.works(HOUSE);
        Bench.due("drum(0, 0)", x.drum(0, 0), false);
        Bench.due("drum(100, 0)", x.drum(100, 0), false);
        Bench.due("drum(-1, 0)", x.drum(-1, 0), false);
        Bench.due("drum(1, -1)", x.drum(1, -1), false);
        Bench.due("drum(1, 4)", x.drum(1, 4), false);
        Bench.due("drum(1, 3)", x.drum(1, 3), true);
        Bench.due("drum(99, 0)", x.drum(99, 0), true);
        Bench.due("drum of a new object", new CoatWorks().drum(1, 0), false);
    }

    private static void runs() {
        CoatWorks x = Bench.works(HOUSE);
        int[] kinds = {0, 1, 2, 5, 3, 4, 0};
        int[] loads = {1, 1, 1, 2, 2, 1, 0};
        for (int t = 0; t < kinds.length; t++) {
            x.ticket(kinds[t], 1, 1, 1, 1, 9);
            x.loaded(t, loads[t]);
        }
        Bench.due("run(-1)", x.run(-1), 3);
        Bench.due("run(0)", x.run(0), 0);
        Bench.due("run(1)", x.run(1), 1);
        Bench.due("run(2)", x.run(2), 5);
        Bench.due("run(3)", x.run(3), -1);
        Bench.due("run(-2)", x.run(-2), -1);
        x.loaded(2, 3);
        Bench.due("run(-1) when the dark one was in another load", x.run(-1), 0);
        Bench.due("run(0)", x.run(0), -1);
        x.loaded(2, 2);
        Bench.due("run(-1) of load 2", x.run(-1), 1);
        Bench.due("run(0) of load 2", x.run(0), 4);
    }

    private static void recalls() {
        CoatWorks x = Bench.works(HOUSE);
        Bench.due("recalled(0) ahead of any", x.recalled(0), -1);
        for (int t = 0; t < 4; t++) {
            x.ticket(3 * (t % 2), 1, 1, 1, 1, 9);
        }
        x.loaded(0, 5);
        x.loaded(2, 6);
        x.loaded(1, 5);
        Bench.due("no drum is told", x.recall(0, 0), 0);
        x.drum(5, 1);
        x.drum(6, 2);
        Bench.due("recall(0, 6)", x.recall(0, 6), 1);
        Bench.due("recalled(0)", x.recalled(0), 0);
        Bench.due("recalled(1)", x.recalled(1), -1);
        Bench.due("recalled(-1)", x.recalled(-1), -1);
        Bench.due("recall(0, 10)", x.recall(0, 10), -1);
        Bench.due("recall(0, -1)", x.recall(0, -1), -1);
        Bench.due("recall(2, 0)", x.recall(2, 0), -1);
        Bench.due("recall(-1, 0)", x.recall(-1, 0), -1);
        Bench.due("recalled(0) as before", x.recalled(0), 0);
        x.drum(5, 0);
        x.drum(6, 3);
        Bench.due("told of the number, not of the ticket", x.recalled(0), 0);
        Bench.due("recall(0, 0)", x.recall(0, 0), 2);
        Bench.due("recalled(1)", x.recalled(1), 2);
        Bench.due("a drum that is as hot", x.recall(0, 9), 0);
        Bench.due("recalled(0) of none", x.recalled(0), -1);
        x.recall(1, 2);
        Bench.due("another house", Bench.house(x, "spot a;"), 1);
        Bench.due("recalled(0) stays", x.recalled(0), 1);
    }

    private static void againstPlainSearch(Random random, int seed) {
        CoatWorks x = Bench.works(HOUSE);
        int n = random.nextInt(41);
        int[] kind = new int[n];
        int[] load = new int[n];
        int[] drum = new int[100];
        for (int t = 0; t < n; t++) {
            kind[t] = random.nextInt(6);
            x.ticket(kind[t], 1, 1, 1, 1, 9);
            if (random.nextInt(5) > 0) {
                load[t] = 1 + random.nextInt(8) + 91 * random.nextInt(2);
                x.loaded(t, load[t]);
            }
        }
        java.util.Arrays.fill(drum, -1);
        for (int i = 0; i < 10; i++) {
            int l = 1 + random.nextInt(8) + 91 * random.nextInt(2);
            drum[l] = random.nextInt(4);
            x.drum(l, drum[l]);
        }
        List<Integer> run = new ArrayList<>();
        for (int t = 0; t < n; t++) {
            boolean has = false;
            for (int u = 0; u < n; u++) {
                has |= load[t] > 0 && load[t] == load[u] && kind[t] % 3 < 2 && kind[u] == 2;
            }
            if (has) {
                run.add(t);
            }
        }
        Bench.due("seed " + seed + " run(-1)", x.run(-1), run.size());
        for (int k = 0; k <= n; k++) {
            Bench.due("seed " + seed + " run(" + k + ")", x.run(k), k < run.size() ? run.get(k) : -1);
        }
        int cloth = random.nextInt(2);
        int heat = random.nextInt(10);
        List<Integer> recall = new ArrayList<>();
        for (int t = 0; t < n; t++) {
            if (kind[t] / 3 == cloth && load[t] > 0 && drum[load[t]] >= 0 && DRUM_HEAT[drum[load[t]]] > heat) {
                recall.add(t);
            }
        }
        Bench.due("seed " + seed + " recall", x.recall(cloth, heat), recall.size());
        for (int k = 0; k <= n; k++) {
            Bench.due("seed " + seed + " recalled(" + k + ")", x.recalled(k), k < recall.size() ? recall.get(k) : -1);
        }
    }
}
