/** Promises 4 and 5: the text of a HOUSE and its FAULTS. */
public final class HouseTest {
    private static final String LINES = "spot a;spot b;agent p 9 a 20 b 0;agent q 0;"
            + "cloth c 9 999 bleeds not p not q;cloth d 0 0 not q;cloth e 1 1 bleeds;cloth f 2 2;"
            + "drum g 99 9;drum h 1 0;loads 4;sell 99;lose 0;express 300;";

    public static void main(String[] args) {
        goodTexts();
        tokens();
        lines();
        numbers();
        names();
        tooMany();
        ends();
        tooLong();
        aFaultLeavesTheHouse();
        aNewHouseEmpties();
        settings();
        houseAfterHouse();
        Bench.finish("HouseTest");
    }

    private static void good(String text, int lines) {
        CoatWorks x = new CoatWorks();
        Bench.due("house '" + text + "'", Bench.house(x, text), lines);
        Bench.due("fault of '" + text + "'", x.fault(), 0);
    }

    private static void bad(String text, int kind, int place) {
        CoatWorks x = new CoatWorks();
        Bench.due("house '" + text + "'", Bench.house(x, text), -1 - place);
        Bench.due("fault of '" + text + "'", x.fault(), kind);
        Bench.due("tape behind '" + text + "'", x.count(9), 0);
    }

    private static void goodTexts() {
        good("", 0);
        good(" \n ", 0);
        good(LINES, 14);
        good(LINES.replace(";", " ;\n "), 14);
        good("spot\nabcdefg;", 1);
        good("agent a 007;", 1);
        good("spot no" + "o;", 1);
        CoatWorks x = Bench.works(LINES);
        for (int what = 0; what < 4; what++) {
            Bench.due("count(" + what + ")", x.count(what), new int[] {2, 2, 4, 2}[what]);
        }
    }

    private static void tokens() {
        bad("Spot a;", 1, 0);
        bad("spot a\t;", 1, 6);
        bad("spot a,", 1, 6);
        bad("spot a.", 1, 6);
        bad("spot a1;", 1, 5);
        bad("spot 1a;", 1, 5);
        bad("spot abcdefgh;", 1, 5);
        bad("agent a 0001;", 1, 8);
        bad("agent a 1a;", 1, 8);
        bad("spot a;\u0000", 1, 7);
        bad("spot a;\u00e9", 1, 7);
        bad("spot a;" + (char) 255, 1, 7);
        bad("spot A;", 1, 5);
    }

    private static void lines() {
        bad(";", 1, 0);
        bad("spot a;;", 1, 7);
        bad("5", 1, 0);
        bad("foo a;", 1, 0);
        bad("bleeds", 1, 0);
        bad("not a;", 1, 0);
        bad("or", 1, 0);
        bad("spot ;", 1, 5);
        bad("spot 5;", 1, 5);
        bad("spot a b;", 1, 7);
        bad("spot a 5;", 1, 7);
        bad("spot (;", 1, 5);
        bad("spot a spot b;", 1, 7);
        bad("agent a b;", 1, 8);
        bad("agent a 5 6;", 1, 10);
        bad("spot s;agent a 5 s;", 1, 18);
        bad("spot s;agent a 5 s s;", 1, 19);
        bad("spot s;agent a 5 not 3;", 1, 17);
        bad("spot s;agent a 5 s 3 =;", 1, 21);
        bad("cloth c 1;", 1, 9);
        bad("cloth c bleeds;", 1, 8);
        bad("cloth c 1 1 bleeds bleeds;", 1, 19);
        bad("agent a 1;cloth c 1 1 a;", 1, 22);
        bad("agent a 1;cloth c 1 1 not;", 1, 25);
        bad("agent a 1;cloth c 1 1 not not a;", 1, 26);
        bad("agent a 1;cloth c 1 1 not a bleeds;", 1, 28);
        bad("agent a 1;cloth c 1 1 not a 5;", 1, 28);
        bad("drum d 1;", 1, 8);
        bad("drum d 1 1 1;", 1, 11);
        bad("loads;", 1, 5);
        bad("loads a;", 1, 6);
        bad("loads 1 2;", 1, 8);
    }

    private static void numbers() {
        bad("agent a 100;", 2, 8);
        bad("spot s;agent a 1 s 21;", 2, 19);
        bad("cloth c 10 1;", 2, 8);
        bad("drum d 0 1;", 2, 7);
        bad("drum d 100 1;", 2, 7);
        bad("drum d 1 10;", 2, 9);
        bad("loads 0;", 2, 6);
        bad("loads 5;", 2, 6);
        bad("sell 0;", 2, 5);
        bad("sell 100;", 2, 5);
        bad("lose 100;", 2, 5);
        bad("express 99;", 2, 8);
        bad("express 301;", 2, 8);
        good("agent a 99;cloth c 9 999;drum d 99 9;loads 4;sell 99;lose 99;express 300;", 7);
        good("agent a 0;cloth c 0 0;drum d 1 0;loads 1;sell 1;lose 0;express 100;", 7);
    }

    private static void names() {
        String all = "spot agent cloth drum loads sell lose express bleeds not or and no is stands fast claimed"
                + " age late price weight size counter load loaded";
        for (String word : all.split(" ")) {
            bad("spot " + word + ";", 1, 5);
            bad("spot s;agent a 1 " + word + " 1;", 1, 17);
            good("spot " + word.charAt(0) + "q;", 1);
        }
        bad("spot a;spot a;", 3, 12);
        bad("spot a;agent a 1;", 3, 13);
        bad("agent a 1;cloth a 1 1;", 3, 16);
        bad("cloth a 1 1;drum a 1 1;", 3, 17);
        bad("drum a 1 1;spot a;", 3, 16);
        bad("agent a 1 s 1;spot s;", 3, 10);
        bad("agent a 1 a 1;", 3, 10);
        bad("agent s 1;agent a 1 s 1;", 3, 20);
        bad("spot s;agent a 1 s 1 s 2;", 3, 21);
        bad("cloth c 1 1 not a;agent a 1;", 3, 16);
        bad("spot a;cloth c 1 1 not a;", 3, 23);
        bad("cloth c 1 1 not c;", 3, 16);
        bad("agent a 1;cloth c 1 1 not a not a;", 3, 32);
        bad("loads 1;loads 1;", 3, 8);
        bad("sell 1;sell 1;", 3, 7);
        bad("lose 1;lose 1;", 3, 7);
        bad("express 100;loads 1;express", 3, 20);
        good("spot s;spot t;agent a 1 t 1 s 2;agent b 1 s 1 t 2;cloth c 1 1 not b not a;", 5);
    }

    private static void tooMany() {
        bad("spot a;spot b;spot c;spot d;spot e;spot f;spot g;", 4, 42);
        bad("spot a;spot b;spot c;spot d;spot e;spot f;spot a;", 4, 42);
        bad("spot a;spot b;spot c;spot d;spot e;spot f; spot", 4, 43);
        bad("agent a 1;agent b 1;agent c 1;agent d 1;agent e 1;agent f 1;agent g 1;", 4, 60);
        bad("cloth a 1 1;cloth b 1 1;cloth c 1 1;cloth d 1 1;cloth e 1 1;cloth f 1 1;cloth g 1 1;cloth h 1 1;"
                + "cloth i 1 1;", 4, 96);
        bad("drum a 1 1;drum b 1 1;drum c 1 1;drum d 1 1;drum e 1 1;", 4, 44);
        good("agent a 1;agent b 1;agent c 1;agent d 1;agent e 1;agent f 1;", 6);
        good("cloth a 1 1;cloth b 1 1;cloth c 1 1;cloth d 1 1;cloth e 1 1;cloth f 1 1;cloth g 1 1;cloth h 1 1;", 8);
        good("drum a 1 1;drum b 1 1;drum c 1 1;drum d 1 1;", 4);
        good("spot s;spot t;spot u;spot v;spot w;spot x;agent a 1 s 1 t 2 u 3 v 4 w 5 x 6;", 7);
        bad("spot s;spot t;spot u;spot v;spot w;spot x;agent a 1 s 1 t 2 u 3 v 4 w 5 x 6 s 1;", 3, 76);
        String agents = "agent a 1;agent b 1;agent d 1;agent e 1;agent f 1;agent g 1;";
        good(agents + "cloth c 1 1 bleeds not a not b not d not e not f not g;", 7);
        bad(agents + "cloth c 1 1 not a not b not d not e not f not g not a;", 3, 112);
    }

    private static void ends() {
        bad("spot", 1, 4);
        bad("spot  ", 1, 6);
        bad("spot a", 1, 6);
        bad("spot a \n", 1, 8);
        bad("spot s;agent a 5 s", 1, 18);
        bad("cloth c 1 1 bleeds", 1, 18);
        bad("agent a 1;cloth c 1 1 not", 1, 25);
        bad("drum d 5", 1, 8);
        bad("loads", 1, 5);
        bad("loads 3", 1, 7);
    }

    private static String padded(String text, int length) {
        StringBuilder b = new StringBuilder(text);
        while (b.length() < length) {
            b.append(' ');
        }
        return b.toString();
    }

    private static void tooLong() {
        good(padded("spot a;", 900), 1);
        good(padded("", 893) + "spot a;", 1);
        bad(padded("spot a;", 901), 1, 900);
        bad(padded("spot a;", 940), 1, 900);
        bad(padded("spot", 930), 1, 900);
        bad(padded("", 894) + "spot a;", 1, 900);
        bad(padded("", 898) + "spot abcdefgh;", 1, 900);
        bad(padded("", 899) + "spot a;", 1, 900);
        bad(padded("", 899) + "spots a;", 1, 899);
        bad(padded("", 894) + "spot abcdefg;", 1, 900);
        bad(padded("", 894) + "spot abcdefgh;", 1, 899);
        bad(padded("spot a;", 894) + "spot a;", 3, 899);
        bad(padded("agent a", 899) + "100;", 2, 899);
        bad(padded("agent a", 899) + "99;", 1, 900);
        bad(padded("agent a", 899) + "1000;", 1, 899);
        bad(padded("5", 940), 1, 0);
        bad(padded("spot", 899) + ";", 1, 899);
        bad(padded("spot", 900) + ";", 1, 900);
        bad(padded("spot a;spot b;spot c;spot d;spot e;spot f;", 897) + "spot g;", 4, 897);
    }

    private static void aFaultLeavesTheHouse() {
        CoatWorks x = Bench.works("spot a;cloth c 1 100;drum d 5 1;loads 1;express 200;");
        x.ticket(100, 10, 1, 1, 1, 5);
        Bench.rule(x, "fast");
        Bench.due("a faulty house", Bench.house(x, "spot b;spot q;agent a 1;cloth r 1 100;foo"), -40 + 1);
        Bench.due("its fault", x.fault(), 1);
        Bench.due("spots stay", x.count(0), 1);
        Bench.due("agents stay", x.count(1), 0);
        Bench.due("cloths stay", x.count(2), 1);
        Bench.due("tickets stay", x.count(4), 1);
        Bench.due("the rule stays", x.meets(-1), 1);
        Bench.due("the price stays", x.ticket(100, 10, 1, 1, 1, 5) == 1 ? x.about(1, 8) : -9, 200);
        Bench.due("a good house", Bench.house(x, "spot b;"), 1);
        Bench.due("no fault then", x.fault(), 0);
    }

    private static void aNewHouseEmpties() {
        String text = "cloth c 5 10;drum d 9 9;";
        CoatWorks x = Bench.works(text);
        x.later(3);
        x.place(2, 7, 8);
        x.ticket(0, 10, 1, 1, 1, 5);
        x.news(0, 1, 3);
        x.claim(0);
        x.loaded(0, 7);
        x.drum(7, 0);
        x.contract(1, 0, 5);
        x.solvent(1, 2, 3);
        Bench.rule(x, "stands 1");
        Bench.due("house again", Bench.house(x, text), 2);
        Bench.due("tickets", x.count(4), 0);
        Bench.due("news", x.count(5), 0);
        Bench.due("today", x.count(6), 3);
        Bench.due("claims", x.count(7), 0);
        Bench.due("book", x.count(8), 0);
        Bench.due("meets", x.meets(-1), -1);
        Bench.due("owed", x.owed(1), -1);
        Bench.dueNoSuch("lost(0)", () -> x.lost(0));
        Bench.dueNoSuch("about(0, 0)", () -> x.about(0, 0));
        Bench.due("round to where it was", Bench.round(x, 2), 2 * (43 + 42));
        x.ticket(0, 10, 1, 1, 1, 5);
        Bench.due("no load told", x.about(0, 9), 0);
        Bench.due("in work", x.stands(0, 3, 3), 0);
        Bench.due("not claimed", x.news(0, 1, 3) + 10 * x.claim(0), 10);
        x.loaded(0, 7);
        Bench.due("no drum told of 7", x.recall(0, 0), 0);
    }

    /** Nothing of an earlier HOUSE, nor of a faulty text, is left in a later one. */
    private static void houseAfterHouse() {
        String rich = "spot s;spot t;agent a 5 s 20 t 20;agent b 5 s 20;cloth c 9 100 bleeds not b;cloth d 9 100 bleeds;"
                + "drum p 9 0;drum q 99 0;drum r 99 0;drum u 99 0;loads 4;sell 1;lose 99;express 300;";
        String poor = "spot s;agent a 5;agent b 5;cloth c 9 100;cloth d 9 100;drum p 9 9;";
        CoatWorks x = Bench.works(rich);
        for (int turn = 0; turn < 4; turn++) {
            Bench.due("the rich house", Bench.house(x, rich), 14);
            x.ticket(101, 100, 1, 1, 1, 0);
            Bench.due("rich express", x.about(0, 8), 300);
            Bench.due("rich out", Bench.out(x, 0, 1, 10, 10), 1280000000L);
            Bench.due("rich best", Bench.best(x, 0, 10, 10), 5 * 1280000000L);
            Bench.due("rich loads", Bench.loads(x, 0), 1);
            if (turn % 2 == 1) {
                Bench.due("a faulty house", Bench.house(x, rich + "loads 4;") < 0, true);
            }
            Bench.due("the poor house", Bench.house(x, poor), 6);
            x.ticket(100, 91, 1, 1, 1, 0);
            x.ticket(0, 90, 1, 1, 1, 0);
            x.ticket(5, 30, 1, 1, 1, 0);
            x.ticket(1, 30, 1, 1, 1, 0);
            Bench.due("poor express", x.about(0, 8), 150);
            Bench.due("poor out", Bench.out(x, 0, 6, 20), 0);
            Bench.due("poor best", Bench.best(x, 0, 20), 10 * 1280000000L);
            Bench.due("poor order", 10 * x.bestAt(0) + x.bestAt(1), 1);
            Bench.due("too heavy for the poor drum", Bench.loads(x, 0), -1);
            Bench.due("not too heavy", Bench.loads(x, 1), 1);
            Bench.due("two loads", Bench.loads(x, 1, 2), 2);
            Bench.due("not three", Bench.loads(x, 1, 2, 3), -1);
            x.loaded(2, 8);
            x.loaded(3, 8);
            Bench.due("none bleeds", x.run(-1), 0);
        }
        CoatWorks four = Bench.works("cloth c 0 1;drum p 1 1;drum q 1 1;drum r 1 1;drum s 1 1;");
        four.ticket(0, 1, 1, 1, 1, 9);
        Bench.due("four drums that are too hot", Bench.loads(four, 0), -1);
    }

    private static void settings() {
        CoatWorks x = Bench.works("cloth c 9 101;drum d 1 0;");
        x.ticket(100, 10, 0, 0, 0, 0);
        x.ticket(0, 10, 0, 0, 0, 0);
        x.ticket(1, 10, 0, 0, 0, 0);
        Bench.due("express is 150 without", x.about(0, 8), 151);
        Bench.due("loads are 2 without", Bench.loads(x, 0, 1), 2);
        Bench.due("loads are not 3 without", Bench.loads(x, 0, 1, 2), -1);
        x.news(1, 2, 0);
        Bench.due("sell is 30 without: 29", x.unfetched(29, 0), 0);
        Bench.due("sell is 30 without: 30", x.unfetched(30, 0), 1);
        x.solvent(20, 1, 0);
        Bench.due("lose is 20 without: 20", x.broken(), -1);
        x.solvent(21, 1, 0);
        Bench.due("lose is 20 without: 41 of 40", x.broken(), 1);
    }
}
