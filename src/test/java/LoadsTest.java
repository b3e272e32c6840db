import java.util.ArrayList;
import java.util.Arrays;
import java.util.List;
import java.util.Random;

/** Promises 12, 13, 22: LOADS that are to be done, against all ways to part the coats. */
public final class LoadsTest {
    public static void main(String[] args) {
        notAsTold();
        edges();
        aHurry();
        tenCoats();
        for (int seed = 1; seed <= 600; seed++) {
            againstAllWays(new Random(seed), seed);
        }
        Bench.finish("LoadsTest");
    }

    private static void notAsTold() {
        CoatWorks x = Bench.works("cloth c 5 10;drum d 99 0;");
        for (int t = 0; t < 12; t++) {
            x.ticket(0, 10, 1, 1, 1, 9);
        }
        int[][] wrong = {{}, {12}, {255}, {0, 0}, {3, 4, 3}, {0, 1, 2, 3, 4, 5, 6, 7, 8, 9, 10}};
        for (int[] tape : wrong) {
            Bench.due("loads of " + Arrays.toString(tape), Bench.loads(x, tape), -2);
            Bench.due("hurry of " + Arrays.toString(tape), Bench.hurry(x, tape), -2);
            Bench.due("patience of " + Arrays.toString(tape), Bench.patience(x, tape), -2);
        }
        Bench.due("ten", Bench.loads(x, 11, 10, 9, 8, 7, 6, 5, 4, 3, 2), 1);
        x.news(5, 1, 0);
        Bench.due("one that is done", Bench.loads(x, 4, 5), -2);
        Bench.due("one that is done, hurried", Bench.hurry(x, 5), -2);
        Bench.due("one that is done, patience", Bench.patience(x, 4, 5), -2);
        Bench.due("of a new object", new CoatWorks().loads(), -2);
    }

    private static void edges() {
        CoatWorks x = Bench.works("cloth hot 5 10;cloth mild 4 10;cloth cold 2 10;drum d 3 5;drum e 2 3;loads 1;");
        x.ticket(0, 15, 1, 1, 1, 2);
        x.ticket(0, 15, 1, 1, 1, 2);
        x.ticket(0, 16, 1, 1, 1, 2);
        x.ticket(1, 5, 1, 1, 1, 2);
        x.ticket(3, 5, 1, 1, 1, 2);
        x.ticket(6, 5, 1, 1, 1, 2);
        x.ticket(0, 31, 1, 1, 1, 2);
        Bench.due("weights 30 of 30", Bench.loads(x, 0, 1), 1);
        Bench.due("weights 31 of 30", Bench.loads(x, 1, 2), 2);
        Bench.due("two shades", Bench.loads(x, 0, 3), 2);
        Bench.due("a mild one in the milder drum", Bench.loads(x, 0, 4), 1);
        Bench.due("too heavy for the milder drum", Bench.loads(x, 2, 4), 2);
        Bench.due("too cold for each drum", Bench.loads(x, 5), -1);
        Bench.due("too cold for each drum: patience", Bench.patience(x, 5), -1);
        Bench.due("too heavy for each drum", Bench.loads(x, 6), -1);
        Bench.due("too heavy for each drum: hurry", Bench.hurry(x, 6), -1);
        Bench.due("three loads on three days", Bench.loads(x, 0, 2, 3), 3);
        Bench.due("from today on", Bench.patience(x, 0, 2, 3), 0);
        Bench.due("from the due day on", Bench.patience(x, 0, 1), 2);
        x.later(1);
        Bench.due("three loads on two days", Bench.loads(x, 0, 2, 3), -1);
        Bench.due("three loads on two days: patience", Bench.patience(x, 0, 2, 3), -1);
        x.later(2);
        Bench.due("late", Bench.loads(x, 0), -1);
        Bench.due("late: patience", Bench.patience(x, 0), -1);
        CoatWorks bare = Bench.works("cloth c 5 10;");
        bare.ticket(0, 1, 1, 1, 1, 9);
        Bench.due("without a drum", Bench.loads(bare, 0), -1);
        Bench.due("without a drum: patience", Bench.patience(bare, 0), -1);
        CoatWorks far = Bench.works("cloth c 5 10;drum d 9 0;");
        far.ticket(0, 1, 1, 1, 1, 199);
        Bench.due("the last day", Bench.patience(far, 0), 199);
    }

    private static void aHurry() {
        CoatWorks x = Bench.works("cloth c 5 10;drum d 3 5;loads 1;");
        x.later(4);
        x.ticket(0, 20, 1, 1, 1, 4);
        x.ticket(0, 20, 1, 1, 1, 9);
        x.ticket(0, 10, 1, 1, 1, 9);
        Bench.due("loads", Bench.loads(x, 0, 1, 2), 2);
        Bench.due("the first is due today anyhow", Bench.hurry(x, 0, 1, 2), 2);
        Bench.due("two would be due today", Bench.hurry(x, 1, 0, 2), -1);
        Bench.due("with the one that is due today", Bench.hurry(x, 2, 0), 1);
        x.later(1);
        Bench.due("a late one, if it were due today", Bench.hurry(x, 0, 1), 2);
        Bench.due("a late one", Bench.loads(x, 0, 1), -1);
        Bench.due("a late one that is not the first", Bench.hurry(x, 1, 0), -1);
        Bench.due("nothing is changed", x.about(0, 7), 4);
    }

    private static void tenCoats() {
        CoatWorks x = Bench.works("cloth c 5 10;drum d 10 5;loads 2;");
        int[] weights = {60, 60, 50, 50, 40, 40, 30, 30, 20, 20};
        for (int w : weights) {
            x.ticket(0, w, 1, 1, 1, 1);
        }
        Bench.due("400 in loads of 100", Bench.loads(x, 0, 1, 2, 3, 4, 5, 6, 7, 8, 9), 4);
        x.ticket(0, 21, 1, 1, 1, 1);
        Bench.due("401 in loads of 100 on two days", Bench.loads(x, 0, 1, 2, 3, 4, 5, 6, 7, 8, 10), -1);
    }

    private static void againstAllWays(Random random, int seed) {
        int perDay = 1 + random.nextInt(4);
        StringBuilder text = new StringBuilder("loads " + perDay + ";");
        int[] heat = new int[3];
        int[] kilos = new int[3];
        int[] drumHeat = new int[3];
        for (int i = 0; i < 3; i++) {
            heat[i] = 3 + random.nextInt(4);
            kilos[i] = 1 + random.nextInt(9);
            drumHeat[i] = i == 0 ? random.nextInt(4) : random.nextInt(7);
            text.append("cloth c" + (char) ('a' + i) + " " + heat[i] + " 5;");
            text.append("drum d" + (char) ('a' + i) + " " + kilos[i] + " " + drumHeat[i] + ";");
        }
        CoatWorks x = Bench.works(text.toString());
        int today = random.nextInt(3);
        int n = 1 + random.nextInt(6);
        int shades = 1 + random.nextInt(3);
        int[] due = new int[n];
        int[][] coat = new int[n][];
        for (int t = 0; t < n; t++) {
            int cloth = random.nextInt(3);
            int shade = random.nextInt(shades);
            due[t] = random.nextInt(5);
            coat[t] = new int[] {shade, 1 + random.nextInt(60), heat[cloth]};
            x.ticket(3 * cloth + shade, coat[t][1], 1, 1, 1, due[t]);
        }
        x.later(today);
        int[] tape = shuffled(random, n);
        String call = "seed " + seed + " '" + text + "' today " + today + " " + Arrays.toString(tape);
        Ways ways = new Ways(coat, due, kilos, drumHeat, perDay);
        Bench.due("loads " + call, Bench.loads(x, tape), ways.fewest(today));
        int latest = -1;
        for (int day = today; day <= 199; day++) {
            latest = ways.fewest(day) >= 0 ? day : latest;
        }
        Bench.due("patience " + call, Bench.patience(x, tape), latest);
        due[tape[0]] = today;
        Bench.due("hurry " + call, Bench.hurry(x, tape), ways.fewest(today));
    }

    private static int[] shuffled(Random random, int n) {
        int[] a = new int[n];
        for (int i = 0; i < n; i++) {
            int j = random.nextInt(i + 1);
            a[i] = a[j];
            a[j] = i;
        }
        return a;
    }

    /** Puts each coat in each load or a new one; and each load on each day on which there is room. */
    private static final class Ways {
        private final int[][] coat;
        private final int[] due;
        private final int[] kilos;
        private final int[] drumHeat;
        private final int perDay;
        private int best;

        Ways(int[][] coat, int[] due, int[] kilos, int[] drumHeat, int perDay) {
            this.coat = coat;
            this.due = due;
            this.kilos = kilos;
            this.drumHeat = drumHeat;
            this.perDay = perDay;
        }

        int fewest(int day) {
            best = -1;
            part(0, new ArrayList<>(), day);
            return best;
        }

        private void part(int t, List<List<Integer>> loads, int day) {
            if (t == coat.length) {
                if ((best < 0 || loads.size() < best) && canBeDone(loads, day)) {
                    best = loads.size();
                }
                return;
            }
            for (int i = 0; i < loads.size(); i++) {
                loads.get(i).add(t);
                part(t + 1, loads, day);
                loads.get(i).remove(loads.get(i).size() - 1);
            }
            List<Integer> alone = new ArrayList<>();
            alone.add(t);
            loads.add(alone);
            part(t + 1, loads, day);
            loads.remove(loads.size() - 1);
        }

        private boolean canBeDone(List<List<Integer>> loads, int day) {
            List<Integer> dues = new ArrayList<>();
            for (List<Integer> load : loads) {
                int weight = 0;
                int earliest = 1000;
                int heat = 9;
                for (int t : load) {
                    if (coat[t][0] != coat[load.get(0)][0]) {
                        return false;
                    }
                    weight += coat[t][1];
                    heat = Math.min(heat, coat[t][2]);
                    earliest = Math.min(earliest, due[t]);
                }
                boolean fits = false;
                for (int d = 0; d < kilos.length; d++) {
                    fits |= drumHeat[d] <= heat && weight <= 10 * kilos[d];
                }
                if (!fits) {
                    return false;
                }
                dues.add(earliest);
            }
            dues.sort(null);
            int done = 0;
            for (int on = day; done < dues.size(); on++) {
                for (int k = 0; k < perDay && done < dues.size(); k++, done++) {
                    if (dues.get(done) < on) {
                        return false;
                    }
                }
            }
            return true;
        }
    }
}
