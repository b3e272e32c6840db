import java.util.ArrayList;
import java.util.List;
import java.util.Random;

/** Promises 30 to 33: CLAIMS and the FEWEST CAUSES, against all sets of them. */
public final class ClaimsTest {
    private static final String HOUSE = "cloth c 5 10;cloth d 5 10;cloth e 5 10;cloth f 5 10;drum p 9 3;";

    public static void main(String[] args) {
        whatCanBeClaimed();
        twelveClaims();
        whatIsPossible();
        aClaimWithoutCause();
        aClaimThatStandsNoMore();
        theFirstOfLikeOnes();
        causesAgain();
        for (int seed = 1; seed <= 500; seed++) {
            againstAllSets(new Random(seed), seed);
        }
        Bench.finish("ClaimsTest");
    }

    private static void whatCanBeClaimed() {
        CoatWorks x = Bench.works(HOUSE);
        for (int t = 0; t < 7; t++) {
            x.ticket(0, 1, 1, 1, 1, 9);
        }
        x.later(1);
        for (int t = 1; t < 6; t++) {
            x.news(t, t, 0);
        }
        Bench.due("claim(0) in work", x.claim(0), -1);
        Bench.due("claim(1) done", x.claim(1), 1);
        Bench.due("claim(1) again", x.claim(1), -1);
        Bench.due("claim(2) at the counter", x.claim(2), 2);
        Bench.due("claim(3) fetched", x.claim(3), 3);
        Bench.due("claim(4) lost", x.claim(4), -1);
        Bench.due("claim(5) sold", x.claim(5), -1);
        Bench.due("claim(7)", x.claim(7), -1);
        Bench.due("claim(-1)", x.claim(-1), -1);
        Bench.due("count(7)", x.count(7), 3);
    }

    private static void twelveClaims() {
        CoatWorks x = Bench.works(HOUSE);
        for (int t = 0; t < 13; t++) {
            x.ticket(0, 1, 1, 1, t, 9);
            x.news(t, 1, 0);
            Bench.due("claim(" + t + ")", x.claim(t), t < 12 ? t + 1 : -1);
        }
        Bench.due("count(7)", x.count(7), 12);
        Bench.due("causes()", x.causes(), 12);
        for (int i = 0; i < 12; i++) {
            Bench.due("cause(" + i + ")", x.cause(i), 200 + i);
        }
        Bench.due("cause(12)", x.cause(12), -1);
    }

    private static void whatIsPossible() {
        CoatWorks x = Bench.works(HOUSE);
        Bench.due("causes() of none", x.causes(), 0);
        Bench.due("cause(0) of none", x.cause(0), -1);
        for (int t = 0; t < 4; t++) {
            x.ticket(3 * t, 1, 1, 1, 7 + t / 2, 9);
        }
        x.loaded(0, 99);
        x.loaded(1, 1);
        x.loaded(2, 1);
        x.news(0, 1, 0);
        x.news(1, 2, 0);
        x.news(3, 3, 0);
        x.claim(0);
        x.claim(1);
        int[] causes = {1, 99, 100, 101, 207};
        for (int cause = -5; cause < 260; cause++) {
            boolean isDue = false;
            for (int c : causes) {
                isDue |= c == cause;
            }
            Bench.due("possible(" + cause + ")", x.possible(cause), isDue ? 1 : 0);
        }
        Bench.due("possible(least)", x.possible(Integer.MIN_VALUE), 0);
        Bench.due("possible(greatest)", x.possible(Integer.MAX_VALUE), 0);
        x.news(2, 1, 0);
        Bench.due("possible(1) when one is not claimed", x.possible(1), 0);
        x.claim(3);
        Bench.due("possible(0): no load is told of 3", x.possible(0), 0);
        Bench.due("possible(103)", x.possible(103), 1);
        Bench.due("possible(208)", x.possible(208), 0);
    }

    private static void aClaimWithoutCause() {
        CoatWorks x = Bench.works(HOUSE);
        for (int t = 0; t < 3; t++) {
            x.ticket(0, 1, 1, 1, t / 2, 9);
            x.news(t, 1, 0);
        }
        x.claim(2);
        Bench.due("causes()", x.causes(), 1);
        Bench.due("cause(0)", x.cause(0), 201);
        Bench.due("cause(1)", x.cause(1), -1);
        Bench.due("cause(-1)", x.cause(-1), -1);
        x.claim(0);
        Bench.due("causes() of one with none", x.causes(), -1);
        Bench.due("cause(0) as before", x.cause(0), 201);
        x.claim(1);
        Bench.due("causes() of all", x.causes(), 1);
        Bench.due("cause(0) of all", x.cause(0), 100);
        Bench.due("another house", Bench.house(x, HOUSE), 5);
        Bench.due("cause(0) stays", x.cause(0), 100);
        Bench.due("causes() of none", x.causes(), 0);
        Bench.due("cause(0) of none", x.cause(0), -1);
    }

    private static void aClaimThatStandsNoMore() {
        CoatWorks x = Bench.works(HOUSE);
        x.ticket(0, 1, 1, 1, 0, 9);
        x.ticket(3, 1, 1, 1, 0, 9);
        x.news(0, 1, 0);
        x.news(1, 1, 0);
        x.claim(0);
        x.news(0, 4, 0);
        Bench.due("possible(100) of none that stands", x.possible(100), 0);
        Bench.due("causes()", x.causes(), -1);
        x.claim(1);
        Bench.due("possible(200)", x.possible(200), 1);
        Bench.due("causes()", x.causes(), 1);
        Bench.due("cause(0)", x.cause(0), 200);
    }

    private static void theFirstOfLikeOnes() {
        CoatWorks x = Bench.works(HOUSE);
        int[][] told = {{0, 0, 9}, {3, 0, 3}, {0, 1, 3}, {3, 1, 9}};
        for (int t = 0; t < 4; t++) {
            x.ticket(told[t][0], 1, 1, 1, told[t][1], 9);
            x.loaded(t, told[t][2]);
            x.news(t, 2, 0);
            x.claim(t);
        }
        Bench.due("causes()", x.causes(), 2);
        Bench.due("cause(0)", x.cause(0), 3);
        Bench.due("cause(1)", x.cause(1), 9);
    }

    /** What an earlier causes() found counts no more. */
    private static void causesAgain() {
        CoatWorks x = Bench.works(HOUSE);
        for (int t = 0; t < 3; t++) {
            x.ticket(3 * t, 1, 1, 1, 39 - t, 9);
            x.news(t, 1, 0);
        }
        x.claim(0);
        x.loaded(0, 5);
        Bench.due("causes()", x.causes(), 1);
        Bench.due("cause(0)", x.cause(0), 5);
        x.loaded(0, 6);
        x.loaded(1, 5);
        x.claim(1);
        Bench.due("causes()", x.causes(), 2);
        Bench.due("cause(0)", x.cause(0), 5);
        Bench.due("cause(1)", x.cause(1), 6);
        CoatWorks y = Bench.works(HOUSE);
        for (int t = 0; t < 3; t++) {
            y.ticket(t == 0 ? 3 : 0, 1, 1, 1, t == 2 ? 0 : 39, 9);
            y.news(t, 1, 0);
        }
        y.claim(0);
        y.claim(1);
        Bench.due("causes() of the last counter", y.causes(), 1);
        Bench.due("cause(0) of the last counter", y.cause(0), 239);
    }

    private static void againstAllSets(Random random, int seed) {
        CoatWorks x = Bench.works(HOUSE);
        int n = 2 + random.nextInt(11);
        int[][] of = new int[n][];
        int loads = 1 + random.nextInt(5);
        int counters = 1 + random.nextInt(6);
        for (int t = 0; t < n; t++) {
            of[t] = new int[] {random.nextInt(loads + 1), 100 + random.nextInt(4), 200 + random.nextInt(counters), 0, 0};
            x.ticket(3 * (of[t][1] - 100), 1, 1, 1, of[t][2] - 200, 9);
            if (of[t][0] > 0) {
                x.loaded(t, of[t][0]);
            }
            of[t][3] = random.nextInt(8) > 0 ? 1 + random.nextInt(3) : 0;
            if (of[t][3] > 0) {
                x.news(t, of[t][3], 0);
                if (random.nextInt(6) > 0) {
                    of[t][4] = x.claim(t) > 0 ? 1 : 0;
                }
                if (random.nextInt(12) == 0) {
                    of[t][3] = 4;
                    x.news(t, 4, 0);
                }
            }
        }
        List<Integer> possible = new ArrayList<>();
        for (int cause = 0; cause < 240; cause++) {
            boolean any = false;
            boolean all = true;
            for (int[] t : of) {
                if (t[3] >= 1 && t[3] <= 3 && has(t, cause)) {
                    any = true;
                    all &= t[4] == 1;
                }
            }
            if (any && all) {
                possible.add(cause);
            }
            Bench.due("seed " + seed + " possible(" + cause + ")", x.possible(cause), any && all ? 1 : 0);
        }
        List<Integer> best = null;
        for (int size = 0; size <= possible.size() && best == null; size++) {
            best = firstOf(of, possible, 0, size, new ArrayList<>());
        }
        Bench.due("seed " + seed + " causes()", x.causes(), best == null ? -1 : best.size());
        for (int i = 0; best != null && i <= best.size(); i++) {
            Bench.due("seed " + seed + " cause(" + i + ")", x.cause(i), i < best.size() ? best.get(i) : -1);
        }
    }

    private static boolean has(int[] ticket, int cause) {
        return cause > 0 && (ticket[0] == cause || ticket[1] == cause || ticket[2] == cause);
    }

    private static List<Integer> firstOf(int[][] of, List<Integer> possible, int from, int size, List<Integer> set) {
        if (set.size() == size) {
            for (int[] t : of) {
                boolean covered = t[4] == 0;
                for (int cause : set) {
                    covered |= has(t, cause);
                }
                if (!covered) {
                    return null;
                }
            }
            return new ArrayList<>(set);
        }
        for (int i = from; i < possible.size(); i++) {
            set.add(possible.get(i));
            List<Integer> got = firstOf(of, possible, i + 1, size, set);
            if (got != null) {
                return got;
            }
            set.remove(set.size() - 1);
        }
        return null;
    }
}
