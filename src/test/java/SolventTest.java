import java.util.Random;

/** Promises 34 to 36: the BOOK of SOLVENT. */
public final class SolventTest {
    public static void main(String[] args) {
        wrongDays();
        lost();
        fullBook();
        sevenDays();
        for (int seed = 1; seed <= 100; seed++) {
            againstPlainSums(new Random(seed), seed);
        }
        Bench.finish("SolventTest");
    }

    private static void wrongDays() {
        CoatWorks x = new CoatWorks();
        for (int wrong : new int[] {-1, 30001, Integer.MIN_VALUE, Integer.MAX_VALUE}) {
            Bench.due("bought " + wrong, x.solvent(wrong, 0, 0), -1);
            Bench.due("kilos " + wrong, x.solvent(0, wrong, 0), -1);
            Bench.due("left " + wrong, x.solvent(0, 0, wrong), -1);
        }
        Bench.due("count(8)", x.count(8), 0);
        Bench.due("broken() of none", x.broken(), -1);
        Bench.due("the greatest ones", x.solvent(30000, 30000, 30000), 0);
        Bench.due("the least ones", x.solvent(0, 0, 0), 1);
        Bench.due("count(8)", x.count(8), 2);
    }

    private static void lost() {
        CoatWorks x = Bench.works("lose 0;");
        x.solvent(100, 5, 60);
        x.solvent(10, 5, 90);
        x.solvent(0, 5, 90);
        Bench.due("lost(0)", x.lost(0), 40);
        Bench.due("lost(1)", x.lost(1), -20);
        Bench.due("lost(2)", x.lost(2), 0);
        for (int d : new int[] {-1, 3, Integer.MIN_VALUE, Integer.MAX_VALUE}) {
            Bench.dueNoSuch("lost(" + d + ")", () -> x.lost(d));
        }
        Bench.due("broken()", x.broken(), 0);
        CoatWorks y = Bench.works("lose 0;");
        y.solvent(0, 0, 0);
        Bench.due("nothing lost is not more than nothing", y.broken(), -1);
        y.solvent(1, 30000, 0);
        Bench.due("one lost is", y.broken(), 1);
    }

    private static void fullBook() {
        CoatWorks x = Bench.works("lose 1;");
        for (int d = 0; d < 200; d++) {
            Bench.due("day " + d, x.solvent(d, d, 0), d);
        }
        Bench.due("day 200", x.solvent(1, 1, 1), -1);
        Bench.due("count(8)", x.count(8), 200);
        Bench.due("lost(199)", x.lost(199), 199);
        Bench.due("broken()", x.broken(), -1);
    }

    private static void sevenDays() {
        CoatWorks x = Bench.works("lose 10;");
        x.solvent(0, 10, 0);
        for (int d = 1; d < 7; d++) {
            x.solvent(15, 1, 0);
        }
        Bench.due("90 lost, 160 allowed on seven days", x.broken(), -1);
        x.solvent(0, 1, 0);
        Bench.due("the first is the seventh ahead: 90 lost, 70 allowed", x.broken(), 7);
        CoatWorks y = Bench.works("lose 10;");
        y.solvent(0, 10, 0);
        for (int d = 1; d < 7; d++) {
            y.solvent(15, 1, 0);
        }
        y.solvent(0, 3, 0);
        Bench.due("90 lost, 90 allowed", y.broken(), -1);
    }

    private static void againstPlainSums(Random random, int seed) {
        int lose = random.nextInt(30);
        CoatWorks x = Bench.works("lose " + lose + ";");
        int days = random.nextInt(60);
        int[][] book = new int[days][];
        int broken = -1;
        for (int d = 0; d < days; d++) {
            book[d] = new int[] {random.nextInt(60 + 8 * lose), 5 + random.nextInt(20), random.nextInt(60)};
            Bench.due("seed " + seed + " solvent", x.solvent(book[d][0], book[d][1], book[d][2]), d);
            int lost = 0;
            int kilos = 0;
            for (int i = Math.max(0, d - 6); i <= d; i++) {
                lost += (i > 0 ? book[i - 1][2] : 0) + book[i][0] - book[i][2];
                kilos += book[i][1];
            }
            broken = broken < 0 && lost > lose * kilos ? d : broken;
            Bench.due("seed " + seed + " lost", x.lost(d), (d > 0 ? book[d - 1][2] : 0) + book[d][0] - book[d][2]);
            Bench.due("seed " + seed + " broken on " + d, x.broken(), broken);
        }
    }
}
