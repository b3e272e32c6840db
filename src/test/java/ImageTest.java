/** Promises 41 and 42: what images keep, and what they leave alone. */
public final class ImageTest {
    private static final String HOUSE = "spot s;agent a 5 s 10;agent b 4 s 12;cloth c 5 100 bleeds not b;cloth d 4 200;"
            + "drum p 9 7;drum o 7 3;loads 1;sell 3;lose 5;express 200;";
    private static final String OTHER = "spot s;spot t;agent a 6 s 11;agent b 1;cloth x 1 7;cloth y 2 8;drum q 1 1;"
            + "drum r 2 2;";

    public static void main(String[] args) {
        wrongPlaces();
        allIsKept();
        imagesStandAlone();
        theHouseIsKept();
        theBookIsKept();
        theRestStays();
        Bench.finish("ImageTest");
    }

    private static void wrongPlaces() {
        CoatWorks x = new CoatWorks();
        for (int k : new int[] {-1, 2, Integer.MIN_VALUE, Integer.MAX_VALUE}) {
            Bench.due("image(" + k + ")", x.image(k), false);
            Bench.due("restore(" + k + ")", x.restore(k), false);
        }
        Bench.due("restore(0) of nothing", x.restore(0), false);
        Bench.due("image(1)", x.image(1), true);
        Bench.due("restore(0) of nothing", x.restore(0), false);
        Bench.due("restore(1)", x.restore(1), true);
        Bench.due("restore(1) again", x.restore(1), true);
    }

    private static CoatWorks filled() {
        CoatWorks x = Bench.works(HOUSE);
        x.later(2);
        x.ticket(2, 10, 1, 3, 1, 2);
        x.ticket(100, 20, 2, 5, 1, 4);
        x.ticket(3, 30, 3, 7, 2, 25);
        x.later(4);
        x.news(0, 1, 3);
        x.news(0, 1, 4);
        x.news(1, 2, 5);
        x.claim(0);
        x.loaded(0, 9);
        x.loaded(1, 9);
        x.drum(9, 0);
        x.contract(1, 1, 7);
        x.place(3, 60, 70);
        x.solvent(50, 4, 30);
        x.solvent(5, 40, 30);
        Bench.rule(x, "is c and load<10 and load>8");
        return x;
    }

    /** All that can be asked of the state. */
    private static long[] told(CoatWorks x) {
        long[] a = new long[200];
        int n = 0;
        for (int what = 0; what < 9; what++) {
            a[n++] = x.count(what);
        }
        for (int t = 0; t < x.count(4); t++) {
            for (int what = 0; what < 10; what++) {
                a[n++] = x.about(t, what);
            }
            a[n++] = x.stands(t, 5, 5);
            a[n++] = x.stands(t, 5, 199);
            a[n++] = x.stands(t, 199, 199);
            a[n++] = x.twice(t);
        }
        for (int i = 0; i < 4; i++) {
            a[n++] = x.open(i);
            a[n++] = x.owed(i);
            a[n++] = x.unfetched(40, i);
            a[n++] = x.run(i - 1);
            a[n++] = x.meets(i - 1);
            a[n++] = x.possible(98 + i);
            a[n++] = x.possible(200 + i);
            a[n++] = x.recall(i, 6);
        }
        for (int d = 0; d < x.count(8); d++) {
            a[n++] = x.lost(d);
        }
        a[n++] = x.broken();
        a[n++] = x.possible(9);
        a[n++] = x.causes();
        a[n++] = Bench.round(x, 3, 4);
        a[n++] = Bench.best(x, 0, 20);
        a[n++] = Bench.best(x, 0, 10, 10);
        a[n++] = Bench.out(x, 0, 1, 20);
        a[n++] = Bench.best(x, 1, 20);
        a[n++] = Bench.loads(x, 2);
        a[n++] = Bench.patience(x, 2);
        a[n++] = Bench.hurry(x, 2);
        a[n++] = x.fault();
        a[n++] = Bench.found(x, 1, 0, 3, 1, 10, 10);
        return a;
    }

    private static void same(String when, long[] got, long[] want) {
        for (int i = 0; i < want.length; i++) {
            Bench.due(when + ", answer " + i, got[i], want[i]);
        }
    }

    private static void allIsKept() {
        CoatWorks x = filled();
        long[] first = told(x);
        Bench.due("image(0)", x.image(0), true);
        same("behind the image", told(x), first);
        x.later(5);
        x.news(2, 4, 8);
        x.news(1, 5, 9);
        x.ticket(0, 5, 5, 5, 5, 50);
        x.claim(1);
        x.loaded(0, 1);
        x.loaded(2, 9);
        x.drum(9, 0);
        x.contract(1, 3, 70);
        x.contract(2, 0, 1);
        x.place(3, 1, 1);
        x.place(4, 9, 9);
        x.solvent(900, 1, 1);
        Bench.rule(x, "fast or load>8");
        long[] second = told(x);
        Bench.due("image(1)", x.image(1), true);
        Bench.due("restore(0)", x.restore(0), true);
        same("restored 0", told(x), first);
        Bench.due("another house", Bench.house(x, OTHER), 8);
        x.later(50);
        x.ticket(0, 5, 5, 5, 5, 150);
        x.drum(9, 1);
        Bench.due("restore(1)", x.restore(1), true);
        same("restored 1", told(x), second);
        Bench.house(x, OTHER);
        long[] third = told(x);
        Bench.due("restore(0)", x.restore(0), true);
        same("restored 0 behind another house", told(x), first);
        x.image(1);
        Bench.house(x, OTHER);
        x.later(5);
        x.place(3, 1, 1);
        x.place(4, 9, 9);
        same("the other house", told(x), third);
        x.restore(1);
        same("restored 1, which is kept anew", told(x), first);
    }

    private static void imagesStandAlone() {
        CoatWorks x = filled();
        long[] first = told(x);
        x.image(0);
        x.restore(0);
        x.news(2, 3, 6);
        x.loaded(2, 8);
        x.place(4, 9, 9);
        x.contract(2, 0, 1);
        x.drum(8, 0);
        Bench.rule(x, "claimed");
        x.restore(0);
        same("restored twice", told(x), first);
        Bench.house(x, OTHER);
        Bench.rule(x, "is x");
        x.image(1);
        x.restore(0);
        x.restore(1);
        Bench.due("the rule of image 1", x.meets(-1), 0);
        Bench.due("the spots of image 1", x.count(0), 2);
        x.ticket(0, 1, 1, 1, 1, 99);
        Bench.due("the rule of image 1 holds", x.meets(0), 0);
        Bench.due("names are kept: is x", Bench.rule(x, "is x"), 1);
        Bench.due("names are kept: is c", Bench.rule(x, "is c"), -4);
        x.restore(0);
        Bench.due("names are kept: is x", Bench.rule(x, "is x"), -4);
        Bench.due("names are kept: is c", Bench.rule(x, "is c"), 1);
    }

    /** What only later calls show of a HOUSE, a BOOK and a RULE. */
    private static void theHouseIsKept() {
        CoatWorks x = filled();
        x.image(0);
        for (int turn = 0; turn < 2; turn++) {
            Bench.house(x, OTHER);
            x.solvent(7, 7, 7);
            x.solvent(8, 8, 8);
            Bench.rule(x, "size=1 and size=2 and size=3 and size=4");
            x.image(1);
            x.restore(0);
            Bench.due("price", x.ticket(105, 90, 1, 1, 1, 20) == 3 ? x.about(3, 8) : -1, 400);
            x.ticket(4, 70, 1, 1, 1, 20);
            Bench.due("kilos: too heavy", Bench.loads(x, 3), -1);
            Bench.due("kilos: not too heavy", Bench.loads(x, 4), 1);
            Bench.due("heat of the cloth and the drum", Bench.patience(x, 4), 20);
            Bench.due("agents that may not be used", Bench.best(x, 0, 20), 5 * 1280000000L);
            Bench.due("agents that may be used", Bench.out(x, 1, 1, 20), 768000000L);
            Bench.due("bleeds", x.run(-1), 1);
            Bench.due("lost(0)", x.lost(0), 20);
            Bench.due("lost(1)", x.lost(1), 5);
            Bench.due("broken()", x.broken(), -1);
            Bench.due("the rule", 10 * x.meets(0) + x.meets(1), 1);
            x.restore(1);
            Bench.due("price of the other", x.ticket(103, 10, 1, 1, 1, 20) == 0 ? x.about(0, 8) : -1, 12);
            Bench.due("lost(1) of the other", x.lost(1), 7);
            Bench.due("the rule of the other", x.meets(-1), 0);
        }
    }

    /** Each part of each DAY in the BOOK is kept. */
    private static void theBookIsKept() {
        CoatWorks x = Bench.works("lose 10;");
        for (int part = 0; part < 3; part++) {
            Bench.house(x, "lose 10;");
            x.solvent(100, 10, 0);
            x.solvent(20, 2, 0);
            x.image(0);
            Bench.house(x, "lose 10;");
            x.solvent(part == 0 ? 101 : 100, part == 1 ? 9 : 10, part == 2 ? 1 : 0);
            x.solvent(20, 2, 0);
            int broken = part < 2 ? 0 : -1;
            Bench.due("another book", x.broken(), broken);
            x.image(1);
            x.restore(0);
            Bench.due("broken() by the book that was kept", x.broken(), -1);
            Bench.due("lost(0)", x.lost(0), 100);
            Bench.due("lost(1)", x.lost(1), 20);
            x.solvent(1, 0, 0);
            Bench.due("broken() on a day more", x.broken(), 2);
            x.restore(1);
            Bench.due("broken() by the other", x.broken(), broken);
            Bench.due("lost(1) by the other", x.lost(1), part == 2 ? 21 : 20);
        }
    }

    private static void theRestStays() {
        CoatWorks x = filled();
        x.image(0);
        Bench.found(x, 1, 0, 3, 1, 10, 10);
        Bench.best(x, 0, 20);
        Bench.round(x, 3, 4);
        x.recall(0, 6);
        x.causes();
        Bench.rule(x, "foo");
        Bench.feedBytes(x, 1, 2, 3);
        Bench.due("restore(0)", x.restore(0), true);
        Bench.due("the tape", x.count(9), 3);
        Bench.due("fault()", x.fault(), 1);
        Bench.due("sure(0)", x.sure(0), 2);
        Bench.due("bestAt(0)", x.bestAt(0), 0);
        Bench.due("roundAt(1)", x.roundAt(1), 4);
        Bench.due("recalled(1)", x.recalled(1), 1);
        Bench.due("cause(0)", x.cause(0), -1);
    }
}
