import java.util.Arrays;
import java.util.Random;

/** Promises 14 and 15: FOUND coats, against all ways to give them to TICKETS. */
public final class FoundTest {
    private static final String HOUSE = "cloth c 5 10;cloth d 5 10;drum p 9 0;";

    public static void main(String[] args) {
        notAsTold();
        whatFits();
        sureStays();
        manyWays();
        aChainOfEight();
        for (int seed = 1; seed <= 700; seed++) {
            againstAllWays(new Random(seed), seed);
        }
        Bench.finish("FoundTest");
    }

    private static void notAsTold() {
        CoatWorks x = Bench.works(HOUSE);
        x.ticket(0, 1, 1, 255, 1, 9);
        int[][] wrong = {
            {}, {0, 0, 1, 0, 10}, {0, 0, 1, 0, 10, 10, 0}, {2, 0, 1, 0, 10, 10}, {0, 3, 1, 0, 10, 10},
            {0, 0, 10, 0, 10, 10}, {0, 0, 1, 0, 11, 10}, {0, 0, 1, 0, 10, 11}, {255, 0, 1, 0, 10, 10},
            {0, 0, 1, 0, 10, 10, 0, 0, 1, 0, 10, 255}, new int[54],
        };
        for (int[] tape : wrong) {
            Bench.due("found of " + Arrays.toString(tape), Bench.found(x, tape), -1);
        }
        Bench.due("found of eight", Bench.found(x, new int[48]), 0);
        Bench.due("found of one", Bench.found(x, 0, 0, 1, 255, 10, 10), 1);
        x.ticket(5, 1, 9, 255, 1, 9);
        Bench.due("the greatest shade and size", Bench.found(x, 1, 2, 9, 1, 0, 1), 1);
        Bench.due("found of a new object", new CoatWorks().found(), -1);
    }

    private static void whatFits() {
        CoatWorks x = Bench.works(HOUSE);
        for (int t = 0; t < 13; t++) {
            x.ticket(4, 1, 3, 6, 1, 9);
        }
        Bench.due("all", Bench.found(x, 1, 1, 3, 0, 10, 10), 13);
        Bench.due("all by their marks", Bench.found(x, 1, 1, 3, 6, 10, 10), 13);
        Bench.due("a mark that they have not", Bench.found(x, 1, 1, 3, 7, 10, 10), 0);
        Bench.due("another cloth", Bench.found(x, 0, 1, 3, 0, 10, 10), 0);
        Bench.due("another shade", Bench.found(x, 1, 2, 3, 0, 10, 10), 0);
        Bench.due("another size", Bench.found(x, 1, 1, 4, 0, 10, 10), 0);
        Bench.due("tens 1", Bench.found(x, 1, 1, 3, 0, 1, 10), 3);
        Bench.due("ones 1", Bench.found(x, 1, 1, 3, 0, 10, 1), 2);
        Bench.due("12", Bench.found(x, 1, 1, 3, 0, 1, 2), 1);
        Bench.due("sure(0) is 12", x.sure(0), 12);
        Bench.due("13", Bench.found(x, 1, 1, 3, 0, 1, 3), 0);
        Bench.due("tens 0", Bench.found(x, 1, 1, 3, 0, 0, 10), 10);
        for (int what = 1; what <= 5; what++) {
            x.news(what, what, 0);
        }
        Bench.due("the open ones", Bench.found(x, 1, 1, 3, 0, 0, 10), 7);
        Bench.due("two of them", Bench.found(x, 1, 1, 3, 0, 0, 10, 1, 1, 3, 0, 0, 10), 42);
    }

    private static void sureStays() {
        CoatWorks x = Bench.works(HOUSE);
        Bench.due("sure(0) ahead of any", x.sure(0), -1);
        x.ticket(0, 1, 1, 1, 1, 9);
        x.ticket(0, 1, 1, 3, 1, 9);
        x.ticket(0, 1, 1, 7, 1, 9);
        Bench.due("ways", Bench.found(x, 0, 0, 1, 4, 10, 10, 0, 0, 1, 2, 10, 10, 0, 0, 1, 1, 10, 10), 1);
        for (int turn = 0; turn < 4; turn++) {
            Bench.due("sure(0)", x.sure(0), 2);
            Bench.due("sure(1)", x.sure(1), 1);
            Bench.due("sure(2)", x.sure(2), 0);
            Bench.due("sure(3)", x.sure(3), -1);
            Bench.due("sure(-1)", x.sure(-1), -1);
            if (turn == 0) {
                Bench.due("found of none", Bench.found(x, 0, 0, 1, 8, 10, 10), 0);
                Bench.due("found not as told", Bench.found(x, 9), -1);
            } else if (turn == 1) {
                Bench.due("a new house", Bench.house(x, HOUSE), 3);
            } else {
                x.image(0);
                x.restore(0);
            }
        }
        x.ticket(0, 1, 1, 1, 1, 9);
        x.ticket(0, 1, 1, 1, 1, 9);
        Bench.due("two ways", Bench.found(x, 0, 0, 1, 1, 10, 10), 2);
        Bench.due("sure(0) of two ways", x.sure(0), -1);
        Bench.due("sure(1) of one coat", x.sure(1), -1);
    }

    private static void manyWays() {
        CoatWorks x = Bench.works(HOUSE);
        for (int t = 0; t < 40; t++) {
            x.ticket(0, 1, 1, 1, 1, 9);
        }
        int[] coats = new int[48];
        for (int i = 0; i < 8; i++) {
            coats[6 * i + 2] = 1;
            coats[6 * i + 4] = 10;
            coats[6 * i + 5] = 10;
        }
        Bench.due("40 x 39 x .. x 33", Bench.found(x, coats), 40L * 39 * 38 * 37 * 36 * 35 * 34 * 33);
        Bench.due("sure(7)", x.sure(7), -1);
        for (int i = 0; i < 8; i++) {
            coats[6 * i + 4] = 3;
            coats[6 * i + 5] = i;
        }
        Bench.due("each its own", Bench.found(x, coats), 1);
        for (int i = 0; i < 8; i++) {
            Bench.due("sure(" + i + ")", x.sure(i), 30 + i);
        }
    }

    /** Coats 0 to 6 may each have one of two TICKETS, till coat 7 takes the first. */
    private static void aChainOfEight() {
        CoatWorks x = Bench.works(HOUSE);
        int[] coats = new int[48];
        for (int i = 0; i < 8; i++) {
            x.ticket(0, 1, 1, (1 << i | 1 << i >> 1) & 127, 1, 9);
            int[] coat = {0, 0, 1, i < 7 ? 1 << i : 0, i < 7 ? 10 : 0, i < 7 ? 10 : 0};
            System.arraycopy(coat, 0, coats, 6 * i, 6);
        }
        Bench.due("seven of the chain", Bench.found(x, java.util.Arrays.copyOf(coats, 42)), 8);
        for (int i = 0; i < 7; i++) {
            Bench.due("not sure(" + i + ")", x.sure(i), -1);
        }
        Bench.due("all of the chain", Bench.found(x, coats), 1);
        for (int i = 0; i < 8; i++) {
            Bench.due("sure(" + i + ")", x.sure(i), i < 7 ? i + 1 : 0);
        }
    }

    private static void againstAllWays(Random random, int seed) {
        CoatWorks x = Bench.works(HOUSE);
        int tickets = 1 + random.nextInt(12);
        int[] marks = new int[tickets];
        for (int t = 0; t < tickets; t++) {
            marks[t] = random.nextInt(8);
            x.ticket(0, 1, 1, marks[t], 1, 9);
        }
        int coats = 1 + random.nextInt(5);
        int[] tape = new int[6 * coats];
        boolean[][] fits = new boolean[coats][tickets];
        for (int i = 0; i < coats; i++) {
            int seen = random.nextInt(8);
            int ones = random.nextInt(3) == 0 ? random.nextInt(10) : 10;
            int tens = random.nextInt(4) == 0 ? random.nextInt(2) : 10;
            int[] coat = {0, 0, 1, seen, tens, ones};
            System.arraycopy(coat, 0, tape, 6 * i, 6);
            for (int t = 0; t < tickets; t++) {
                fits[i][t] = (marks[t] & seen) == seen && (ones == 10 || t % 10 == ones)
                        && (tens == 10 || t / 10 == tens);
            }
        }
        int[][] owned = new int[coats][tickets];
        int ways = count(fits, 0, new int[coats], owned);
        Bench.due("seed " + seed + " found", Bench.found(x, tape), ways);
        for (int i = 0; i < coats && ways > 0; i++) {
            int sure = -1;
            for (int t = 0; t < tickets; t++) {
                sure = owned[i][t] == ways ? t : sure;
            }
            Bench.due("seed " + seed + " sure(" + i + ")", x.sure(i), sure);
        }
    }

    private static int count(boolean[][] fits, int i, int[] owner, int[][] owned) {
        if (i == fits.length) {
            for (int c = 0; c < i; c++) {
                owned[c][owner[c]]++;
            }
            return 1;
        }
        int ways = 0;
        for (int t = 0; t < fits[i].length; t++) {
            boolean isFree = true;
            for (int c = 0; c < i; c++) {
                isFree &= owner[c] != t;
            }
            if (isFree && fits[i][t]) {
                owner[i] = t;
                ways += count(fits, i + 1, owner, owned);
            }
        }
        return ways;
    }
}
