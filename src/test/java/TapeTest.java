/** Promises 1, 2, 3 and what count() tells of the tape. */
public final class TapeTest {
    public static void main(String[] args) {
        aNewObject();
        feedAndEnd();
        fullTape();
        everyReaderEmptiesTheTape();
        Bench.finish("TapeTest");
    }

    private static void aNewObject() {
        CoatWorks x = new CoatWorks();
        for (int what = 0; what < 10; what++) {
            Bench.due("count(" + what + ")", x.count(what), 0);
        }
        Bench.due("count(-1)", x.count(-1), -1);
        Bench.due("count(10)", x.count(10), -1);
        Bench.due("count(least)", x.count(Integer.MIN_VALUE), -1);
        Bench.due("fault()", x.fault(), 0);
        Bench.due("later(0)", x.later(0), 0);
        Bench.due("house() of an empty tape", x.house(), 0);
        Bench.due("NONE", CoatWorks.NONE, -1);
    }

    private static void feedAndEnd() {
        CoatWorks x = new CoatWorks();
        Bench.due("end(0)", x.end(0), true);
        Bench.due("end(1)", x.end(1), false);
        Bench.due("end(-1)", x.end(-1), false);
        Bench.due("feed", x.feed(0x73706f74, 0x20613b00, -1, 0x80000000, 0x01020304), 20);
        Bench.due("end(21)", x.end(21), false);
        Bench.due("count(9)", x.count(9), 20);
        Bench.due("end(20)", x.end(20), true);
        Bench.due("end(7)", x.end(7), true);
        Bench.due("count(9)", x.count(9), 7);
        Bench.due("feed behind 7", x.feed(0x64727564, 0, 0, 0, 0), 27);
        Bench.due("end(7) again", x.end(7), true);
        Bench.due("house of the highest bytes first", x.house(), 1);
        Bench.due("one spot", x.count(0), 1);
        Bench.due("the tape is empty then", x.count(9), 0);
    }

    private static void fullTape() {
        CoatWorks x = new CoatWorks();
        for (int i = 1; i <= 47; i++) {
            Bench.due("feed " + i, x.feed(0x20202020, 0x20202020, 0x20202020, 0x20202020, 0x20202020), 20 * i);
        }
        Bench.due("feed beyond 940", x.feed(0, 0, 0, 0, 0), -1);
        Bench.due("none came", x.count(9), 940);
        Bench.due("end(921)", x.end(921), true);
        Bench.due("feed from 921", x.feed(0, 0, 0, 0, 0), -1);
        Bench.due("still 921", x.count(9), 921);
        Bench.due("end(920)", x.end(920), true);
        Bench.due("feed from 920", x.feed(0, 0, 0, 0, 0), 940);
        Bench.due("end(900)", x.end(900), true);
        Bench.due("900 blanks are an empty house", x.house(), 0);
    }

    private static void everyReaderEmptiesTheTape() {
        CoatWorks x = Bench.works("spot a;cloth c 1 1;drum d 1 1;");
        for (int call = 0; call < 9; call++) {
            Bench.feedBytes(x, 255, 255, 255);
            switch (call) {
                case 0: x.house(); break;
                case 1: x.loads(); break;
                case 2: x.patience(); break;
                case 3: x.found(); break;
                case 4: x.best(0); break;
                case 5: x.out(0, 7); break;
                case 6: x.hurry(); break;
                case 7: x.rule(); break;
                default: x.round(); break;
            }
            Bench.due("the tape behind a wrong call " + call, x.count(9), 0);
        }
        Bench.feedBytes(x, 20);
        x.best(9);
        Bench.due("the tape behind best of no cloth", x.count(9), 0);
        Bench.feedBytes(x, 20);
        x.best(0);
        Bench.due("the tape behind best", x.count(9), 0);
    }
}
