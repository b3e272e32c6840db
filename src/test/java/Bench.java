/** What all tests use: answers that are due, and tapes written as texts or bytes. */
final class Bench {
    private static int asked = 0;
    private static int wrong = 0;

    private Bench() {
    }

    static void due(String call, long got, long want) {
        asked++;
        if (got != want) {
            wrong++;
            if (wrong <= 40) {
                System.out.println("  " + call + " answered " + got + ", due is " + want);
            }
        }
    }

    static void due(String call, boolean got, boolean want) {
        due(call, got ? 1 : 0, want ? 1 : 0);
    }

    /** A call that is to throw NoSuchElementException, and nothing else. */
    static void dueNoSuch(String call, Runnable run) {
        boolean thrown = false;
        try {
            run.run();
        } catch (java.util.NoSuchElementException e) {
            thrown = true;
        }
        due(call + " throws NoSuchElementException", thrown, true);
    }

    static void finish(String name) {
        System.out.println(name + ": " + asked + " answers asked, " + wrong + " wrong");
        if (wrong != 0) {
            System.exit(1);
        }
    }

    /** Puts bytes behind the tape. */
    static void feedBytes(CoatWorks x, int... bytes) {
        int had = x.count(9);
        for (int i = 0; i < bytes.length; i += 20) {
            int[] five = new int[5];
            for (int j = 0; j < 20; j++) {
                five[j / 4] = five[j / 4] << 8 | (i + j < bytes.length ? bytes[i + j] & 255 : 0);
            }
            x.feed(five[0], five[1], five[2], five[3], five[4]);
        }
        x.end(had + bytes.length);
    }

    static void feedText(CoatWorks x, String text) {
        int[] bytes = new int[text.length()];
        for (int i = 0; i < bytes.length; i++) {
            bytes[i] = text.charAt(i);
        }
        feedBytes(x, bytes);
    }

    static int house(CoatWorks x, String text) {
        feedText(x, text);
        return x.house();
    }

    static int rule(CoatWorks x, String text) {
        feedText(x, text);
        return x.rule();
    }

    /** A new object with this HOUSE, which is to have no FAULT. */
    static CoatWorks works(String text) {
        CoatWorks x = new CoatWorks();
        int lines = house(x, text);
        due("house of '" + text + "' has no fault", lines >= 0, true);
        return x;
    }

    static int loads(CoatWorks x, int... tickets) {
        feedBytes(x, tickets);
        return x.loads();
    }

    static int hurry(CoatWorks x, int... tickets) {
        feedBytes(x, tickets);
        return x.hurry();
    }

    static int patience(CoatWorks x, int... tickets) {
        feedBytes(x, tickets);
        return x.patience();
    }

    static long found(CoatWorks x, int... coats) {
        feedBytes(x, coats);
        return x.found();
    }

    static long best(CoatWorks x, int cloth, int... chances) {
        feedBytes(x, chances);
        return x.best(cloth);
    }

    static long out(CoatWorks x, int cloth, int k, int... chances) {
        feedBytes(x, chances);
        return x.out(cloth, k);
    }

    static int round(CoatWorks x, int... counters) {
        feedBytes(x, counters);
        return x.round();
    }
}
