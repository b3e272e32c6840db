/** The edges of the texts, HOUSE and RULE: of each sentence the last that is taken and the first that is not. */
public final class TextEdgesTest {
    private static final String CLOTH = "cloth wool 5 100;";

    public static void main(String[] args) {
        atMost900Bytes();
        blanks();
        words();
        numbers();
        signs();
        runsOfLettersAndDigits();
        agentRanges();
        clothRanges();
        drumRanges();
        settingRanges();
        settingsWithout();
        namesAreNoWordsOfTheTexts();
        namesToldOnce();
        namesToldAhead();
        namesTwiceInOneLine();
        sixSixEightFour();
        allSortsFull();
        allNamesKnown();
        numberedEachSortByItself();
        theFirstFaultAlongTheText();
        ofOneTokenTheLeast();
        atTheEnd();
        beyond900();
        settingsToldTwice();
        ruleOfAtMost200Bytes();
        ruleNumbers();
        ruleClothNames();
        twentyOnes();
        eightWithin();
        ruleFaultOfOneTokenTheLeast();
        faultOfTheLatest();
        Bench.finish("TextEdgesTest");
    }

    private static void house(String text, int lines) {
        CoatWorks x = new CoatWorks();
        Bench.due("house '" + text + "'", Bench.house(x, text), lines);
        Bench.due("fault of '" + text + "'", x.fault(), 0);
    }

    private static void fault(int kind, int place, String text) {
        CoatWorks x = new CoatWorks();
        Bench.due("house '" + text + "'", Bench.house(x, text), -1 - place);
        Bench.due("fault of '" + text + "'", x.fault(), kind);
    }

    /** A FAULT at the first place of what stands behind the sign @. */
    private static void faultAt(int kind, String text) {
        fault(kind, text.indexOf('@'), text.replace("@", ""));
    }

    private static void rule(String text, int ones) {
        CoatWorks x = Bench.works(CLOTH);
        Bench.due("rule '" + text + "'", Bench.rule(x, text), ones);
        Bench.due("fault of '" + text + "'", x.fault(), 0);
    }

    private static void ruleFaultAt(int kind, String text) {
        CoatWorks x = Bench.works(CLOTH);
        Bench.due("rule '" + text + "'", Bench.rule(x, text.replace("@", "")), -1 - text.indexOf('@'));
        Bench.due("fault of '" + text + "'", x.fault(), kind);
    }

    private static String blank(int many) {
        return " ".repeat(many);
    }

    // ---- "A HOUSE is a text of at most 900 bytes." ----

    private static void atMost900Bytes() {
        house("spot a;" + blank(892), 1);
        house("spot a;" + blank(893), 1);
        fault(1, 900, "spot a;" + blank(894));
        fault(1, 900, "spot a;" + blank(933));
        house(blank(900), 0);
        fault(1, 900, blank(901));
    }

    // ---- "TOKENS, with blanks (32, 10) between them or not" ----

    private static void blanks() {
        house("spot a;spot b;agent c 1 a 2 b 3;", 3);
        house("\n spot\na\n;\n\nspot b ; agent c 1 a 2\nb 3 ;\n", 3);
        for (int c = 0; c < 256; c++) {
            boolean isSmall = c >= 'a' && c <= 'z' || c >= '0' && c <= '9';
            if (c == 32 || c == 10) {
                house("spot a" + (char) c + ";", 1);
            } else if (isSmall) {
                house("spot " + (c <= '9' ? "a" : (char) c) + ";", 1);
            } else if (c != ';') {
                fault(1, 6, "spot a" + (char) c + ";");
            }
        }
    }

    // ---- "WORDS: small letters, 1 to 7" ----

    private static void words() {
        house("spot a;spot z;", 2);
        house("spot abcdefg;", 1);
        house("spot zzzzzzz;", 1);
        faultAt(1, "spot @abcdefgh;");
        faultAt(1, "spot @" + "a".repeat(200) + ";");
        faultAt(1, "spot @A;");
        faultAt(1, "spot @Z;");
        faultAt(1, "spot @`;");
        faultAt(1, "spot @{;");
        faultAt(1, "spot a@B;");
        house("spot aaaaaaa;spot aaaaaa;spot aaaaaab;", 3);
        faultAt(3, "spot aaaaaaa;spot @aaaaaaa;");
        // WORDS of one letter, told once, twice, .. are unlike
        for (char c = 'a'; c <= 'z'; c++) {
            StringBuilder text = new StringBuilder();
            for (int n = 1; n <= 6; n++) {
                text.append("spot ").append(String.valueOf(c).repeat(n)).append(';');
            }
            house(text.toString(), 6);
            house("spot " + c + "q;spot q" + c + "a;spot a" + c + "q;", 3);
        }
    }

    // ---- "NUMBERS: 1 to 3 digits" ----

    private static void numbers() {
        house("agent a 0;agent b 00;agent c 000;agent d 9;agent e 99;agent f 099;", 6);
        house("cloth c 0 999;cloth d 009 000;", 2);
        faultAt(1, "cloth c 0 @1000;");
        faultAt(1, "cloth c 0 @0000;");
        faultAt(1, "cloth c @0001 1;");
        faultAt(1, "cloth c @" + "1".repeat(100) + " 1;");
        faultAt(1, "agent a @/;");
        faultAt(1, "agent a @:;");
        faultAt(1, "agent a @-1;");
        faultAt(1, "agent a @+1;");
        faultAt(1, "agent a 1@.5;");
    }

    // ---- "; ( ) < = > ." : TOKENS of which a HOUSE has the first alone ----

    private static void signs() {
        for (String sign : new String[] {"(", ")", "<", "=", ">", "."}) {
            faultAt(1, "@" + sign);
            faultAt(1, "spot @" + sign);
            faultAt(1, "spot a@" + sign);
            faultAt(1, "spot a;@" + sign);
        }
        faultAt(1, "@;");
        faultAt(1, "spot@;");
        faultAt(1, "spot a;@;");
    }

    // ---- "A WORD, NUMBER goes on as long as small letters and digits do; what is not as told is no TOKEN" ----

    private static void runsOfLettersAndDigits() {
        faultAt(1, "@loads2;");
        faultAt(1, "loads @2a;");
        faultAt(1, "@spota;");
        faultAt(1, "agent @a1;");
        faultAt(1, "spot a;agent b @1a 3;");
        faultAt(1, "spot a;agent b 1 @a3;");
        faultAt(1, "@2spot a;");
        faultAt(1, "cloth c 1 1@(bleeds;");
    }

    // ---- "COST 0 to 99; CHANCES 0 to 20, by 20, ..; 0 for SPOTS not told" ----

    private static void agentRanges() {
        house("spot s;agent a 0 s 0;agent b 99 s 20;", 3);
        faultAt(2, "agent a @100;");
        faultAt(2, "agent a @999;");
        faultAt(2, "spot s;agent a 1 s @21;");
        faultAt(2, "spot s;agent a 1 s @999;");
        faultAt(1, "agent a@;");
        faultAt(1, "spot s;agent a 1 s@;");
        CoatWorks x = Bench.works("spot s;spot t;agent a 99 s 20;agent b 0 t 0;cloth c 0 0;");
        Bench.due("cost 99, nothing taken from t", Bench.best(x, 0, 0, 20), 99L * 1280000000);
        Bench.due("the one that costs 0 may as well come behind", x.bestAt(0), 0);
        Bench.due("chance 20 of s", Bench.out(x, 0, 1, 20, 0), 1280000000L);
        Bench.due("chance 0 of t, told or not", Bench.out(x, 0, 6, 0, 20), 0);
        Bench.due("one part of 20 of s", Bench.out(x, 0, 1, 1, 19), 64000000L);
    }

    // ---- "'cloth' NAME HEAT PRICE [ 'bleeds' ] { 'not' AGENT } (0 to 9; 0 to 999; ..)" ----

    private static void clothRanges() {
        house("cloth c 0 0;cloth d 9 999;", 2);
        faultAt(2, "cloth c @10 1;");
        faultAt(1, "cloth c 1 @1000;");
        faultAt(1, "cloth c 1@;");
        faultAt(1, "cloth c 1 1 bleeds @bleeds;");
        faultAt(1, "agent a 1;cloth c 1 1 not a @bleeds;");
        faultAt(1, "agent a 1;cloth c 1 1 not@;");
        faultAt(1, "agent a 1;cloth c 1 1 @a;");
        CoatWorks x = Bench.works("cloth c 0 0;cloth d 9 999;drum p 20 9;drum q 1 0;express 300;");
        x.ticket(100, 11, 0, 0, 0, 0);
        x.ticket(103, 200, 0, 0, 0, 0);
        Bench.due("price 0", x.about(0, 8), 0);
        Bench.due("price 999 times 3", x.about(1, 8), 2997);
        Bench.due("heat 0 in a drum of 9", Bench.loads(x, 0), -1);
        Bench.due("heat 9 in a drum of 9", Bench.loads(x, 1), 1);
    }

    // ---- "'drum' NAME KILOS HEAT (1 to 99; 0 to 9)" ----

    private static void drumRanges() {
        house("drum a 1 0;drum b 99 9;", 2);
        faultAt(2, "drum a @0 1;");
        faultAt(2, "drum a @100 1;");
        faultAt(2, "drum a 1 @10;");
        faultAt(1, "drum a 1@;");
        faultAt(1, "drum a 1 1 @1;");
        CoatWorks x = Bench.works("cloth c 5 1;drum a 1 5;");
        x.ticket(0, 10, 0, 0, 0, 0);
        x.ticket(0, 11, 0, 0, 0, 0);
        Bench.due("ten tenths in one kilo", Bench.loads(x, 0), 1);
        Bench.due("eleven tenths in one kilo", Bench.loads(x, 1), -1);
    }

    // ---- "loads 1 to 4, sell 1 to 99, lose 0 to 99, express 100 to 300" ----

    private static void settingRanges() {
        house("loads 1;sell 1;lose 0;express 100;", 4);
        house("express 300;lose 99;sell 99;loads 4;", 4);
        faultAt(2, "loads @0;");
        faultAt(2, "loads @5;");
        faultAt(2, "sell @0;");
        faultAt(2, "sell @100;");
        faultAt(2, "lose @100;");
        faultAt(2, "express @99;");
        faultAt(2, "express @301;");
        faultAt(1, "lose @1000;");
        faultAt(1, "loads@;");
        faultAt(1, "loads 1 @1;");
        for (int loads = 1; loads <= 4; loads++) {
            CoatWorks x = Bench.works("cloth c 5 1;drum a 1 5;loads " + loads + ";");
            for (int t = 0; t < 5; t++) {
                x.ticket(0, 10, 0, 0, 0, 0);
            }
            Bench.due("so many loads a day: " + loads, Bench.loads(x, java.util.Arrays.copyOf(new int[] {0, 1, 2, 3}, loads)),
                    loads);
            Bench.due("one more than " + loads, Bench.loads(x, java.util.Arrays.copyOf(new int[] {0, 1, 2, 3, 4}, loads + 1)),
                    -1);
        }
        setting("sell 1;", 0, 1);
        setting("sell 99;", 98, 99);
        priced("express 100;", 999);
        priced("express 101;", 1008);
        priced("express 300;", 2997);
        lost("lose 0;", 0, 1);
        lost("lose 99;", 99, 100);
    }

    private static void setting(String text, int notYet, int first) {
        CoatWorks x = Bench.works("cloth c 5 1;" + text);
        x.ticket(0, 10, 0, 0, 0, 0);
        x.news(0, 2, 0);
        Bench.due(text + " on " + notYet, x.unfetched(notYet, 0), 0);
        Bench.due(text + " on " + first, x.unfetched(first, 0), 1);
    }

    private static void priced(String text, int cost) {
        CoatWorks x = Bench.works("cloth c 5 999;" + text);
        x.ticket(100, 10, 0, 0, 0, 0);
        x.ticket(0, 10, 0, 0, 0, 0);
        Bench.due(text + " express", x.about(0, 8), cost);
        Bench.due(text + " not express", x.about(1, 8), 999);
    }

    private static void lost(String text, int allowed, int broken) {
        CoatWorks x = Bench.works(text);
        x.solvent(allowed, 1, 0);
        Bench.due(text + " lost " + allowed, x.broken(), -1);
        x.solvent(broken, 1, 0);
        Bench.due(text + " lost " + broken + " too", x.broken(), 1);
    }

    // ---- "2 without", "30 without", "20 without", "150 without"; and again behind a HOUSE that told them ----

    private static void settingsWithout() {
        setting("", 29, 30);
        priced("", 1498);
        lost("", 20, 21);
        CoatWorks x = Bench.works("loads 4;sell 1;lose 99;express 300;cloth c 5 1;drum d 1 5;");
        Bench.house(x, "cloth c 5 999;drum d 1 5;");
        for (int t = 0; t < 3; t++) {
            x.ticket(100, 10, 0, 0, 0, 0);
        }
        Bench.due("two loads without", Bench.loads(x, 0, 1), 2);
        Bench.due("not three", Bench.loads(x, 0, 1, 2), -1);
        Bench.due("150 without", x.about(0, 8), 1498);
        x.news(0, 2, 0);
        Bench.due("30 without: 29", x.unfetched(29, 0), 0);
        Bench.due("30 without: 30", x.unfetched(30, 0), 1);
        x.solvent(21, 1, 0);
        Bench.due("20 without", x.broken(), 0);
    }

    // ---- "NAME: a WORD, none of spot, agent, .., nor those of a RULE" ----

    private static void namesAreNoWordsOfTheTexts() {
        String all = "spot agent cloth drum loads sell lose express bleeds not or and no is stands fast claimed"
                + " age late price weight size counter load loaded";
        for (String word : all.split(" ")) {
            for (String first : new String[] {"spot ", "agent ", "cloth ", "drum "}) {
                faultAt(1, first + "@" + word + " 1 1;");
            }
            String shorter = word.substring(0, word.length() - 1);
            if (!(" " + all + " ").contains(" " + shorter + " ")) {
                house("spot " + shorter + ";", 1);
            }
            if (word.length() < 7 && !(" " + all + " ").contains(" " + word + "d ")) {
                house("spot " + word + "d;", 1);
            }
        }
        house("spot name;spot cost;spot chance;spot heat;spot kilos;spot number;", 6);
        house("cloth all 1 1;cloth one 1 1;cloth what 1 1;cloth sign 1 1;cloth cond 1 1;", 5);
    }

    // ---- "told once"; FAULT "3 a NAME told twice (at it)" ----

    private static void namesToldOnce() {
        String[] firsts = {"spot a;", "agent a 1;", "cloth a 1 1;", "drum a 1 1;"};
        for (String first : firsts) {
            for (String second : firsts) {
                faultAt(3, first + second.replaceFirst(" ", " @"));
                house(first + second.replaceFirst(" a", " b"), 2);
            }
        }
    }

    // ---- "SPOT, AGENT: a NAME told ahead of such a one" ----

    private static void namesToldAhead() {
        faultAt(3, "agent a 1 @s 1;spot s;");
        faultAt(3, "agent a 1 @a 1;");
        faultAt(3, "cloth s 1 1;agent a 1 @s 1;");
        faultAt(3, "drum s 1 1;agent a 1 @s 1;");
        faultAt(3, "agent s 1;agent a 1 @s 1;");
        faultAt(3, "cloth c 1 1 not @a;agent a 1;");
        faultAt(3, "cloth c 1 1 not @c;");
        faultAt(3, "spot a;cloth c 1 1 not @a;");
        faultAt(3, "drum a 1 1;cloth c 1 1 not @a;");
        house("spot s;agent a 1 s 1;cloth c 1 1 not a;", 3);
    }

    // ---- "no one twice in one LINE" ----

    private static void namesTwiceInOneLine() {
        faultAt(3, "spot s;spot t;agent a 1 s 1 t 1 @s 1;");
        house("spot s;spot t;agent a 1 s 1 t 1;agent b 1 s 1;", 4);
        faultAt(3, "agent a 1;agent b 1;cloth c 1 1 not a not b not @a;");
        house("agent a 1;agent b 1;cloth c 1 1 not a not b;cloth d 1 1 not a;", 4);
    }

    // ---- "6 SPOTS, 6 AGENTS, 8 CLOTHS, 4 DRUMS at most"; FAULT "4 .. (at the LINE's first WORD)" ----

    private static String many(String first, String rest, int n) {
        StringBuilder b = new StringBuilder();
        for (int i = 0; i < n; i++) {
            b.append(first).append(' ').append(first.charAt(0)).append((char) ('a' + i)).append(rest).append(';');
        }
        return b.toString();
    }

    private static void sixSixEightFour() {
        house(many("spot", "", 6), 6);
        house(many("agent", " 1", 6), 6);
        house(many("cloth", " 1 1", 8), 8);
        house(many("drum", " 1 1", 4), 4);
        faultAt(4, many("spot", "", 6) + " @spot x;");
        faultAt(4, many("agent", " 1", 6) + "\n@agent x 1;");
        faultAt(4, many("cloth", " 1 1", 8) + "@cloth x 1 1;");
        faultAt(4, many("drum", " 1 1", 4) + "loads 1;@drum x 1 1;");
    }

    private static void allSortsFull() {
        String all = many("spot", "", 6) + many("agent", " 1", 6) + many("cloth", " 1 1", 8) + many("drum", " 1 1", 4);
        house(all + "loads 1;sell 1;lose 1;express 100;", 28);
        faultAt(4, all + "@spot x;");
        faultAt(4, all + "@agent x 1;");
        faultAt(4, all + "@cloth x 1 1;");
        faultAt(4, all + "@drum x 1 1;");
        CoatWorks x = Bench.works(all);
        int[] most = {6, 6, 8, 4};
        for (int what = 0; what < 4; what++) {
            Bench.due("count(" + what + ")", x.count(what), most[what]);
        }
    }

    /** When all sorts are full, each NAME is still known by its sort and number. */
    private static void allNamesKnown() {
        String all = many("agent", " 1", 6) + many("cloth", " 1 1", 8) + many("drum", " 1 1", 4) + many("spot", "", 6);
        CoatWorks x = Bench.works(all);
        for (int c = 0; c < 8; c++) {
            x.ticket(3 * c, 1, 1, 1, 1, 1);
            Bench.due("is c" + (char) ('a' + c), Bench.rule(x, "is c" + (char) ('a' + c)), 1);
            Bench.due("the cloth of that name", x.meets(0), c);
            Bench.due("and no other", x.meets(-1), 1);
        }
        for (String other : new String[] {"aa", "af", "da", "dd", "sa", "sf", "ci"}) {
            Bench.due("is " + other, Bench.rule(x, "is " + other), -4);
        }
        String most = many("agent", " 1", 6) + many("cloth", " 1 1", 8) + many("drum", " 1 1", 4) + many("spot", "", 5);
        for (String name : "aa af ca ch da dd sa se".split(" ")) {
            faultAt(3, most + "spot @" + name + ";");
        }
        house(most + "spot sf;", 24);
    }

    // ---- "numbered each sort by itself, from 0" ----

    private static void numberedEachSortByItself() {
        CoatWorks x = Bench.works("cloth c 5 10;drum d 9 3;spot s;agent a 9 s 20;cloth e 5 20;drum f 9 7;spot t;agent b 1;"
                + "cloth g 5 30 not a;");
        x.ticket(0, 1, 1, 1, 1, 1);
        x.ticket(3, 1, 1, 1, 1, 1);
        x.ticket(6, 1, 1, 1, 1, 1);
        for (int t = 0; t < 3; t++) {
            Bench.due("cloth " + t, x.about(t, 8), 10 * t + 10);
            x.loaded(t, 1 + t);
        }
        Bench.due("drum 1 is told", x.drum(2, 1), true);
        Bench.due("drum 2 is not", x.drum(2, 2), false);
        Bench.due("drum 1 is the hotter", x.recall(1, 6), 1);
        Bench.due("spot 0 is s", Bench.out(x, 0, 1, 20, 0), 1280000000L);
        Bench.due("spot 1 is t", Bench.out(x, 0, 1, 0, 20), 0);
        Bench.due("agent 0 may not be used on cloth 2", Bench.best(x, 2, 20, 0), 1280000000L);
        Bench.due("agent 1 may", x.bestAt(0), 1);
    }

    // ---- "FAULTS, the first along the text" ----

    private static void theFirstFaultAlongTheText() {
        faultAt(2, "agent a @100;spot a;?");
        faultAt(3, "spot a;spot @a;agent b 100;?");
        faultAt(1, "spot a@?spot a;");
        faultAt(4, many("spot", "", 6) + "@spot ?");
        faultAt(4, many("spot", "", 6) + "@spot sa;");
        faultAt(4, many("agent", " 1", 6) + "@agent x 100;");
        faultAt(2, "drum d @0 10;");
        faultAt(2, "cloth c @10 1000;");
    }

    // ---- "of one TOKEN the least" ----

    private static void ofOneTokenTheLeast() {
        // a NUMBER that is out of range where none can come; a NAME that is not told where none can come
        faultAt(1, "spot a @999;");
        faultAt(1, "cloth c 1 1 @x;");
        faultAt(1, "loads 1 @loads 1;");
        faultAt(1, many("spot", "", 6) + "loads 1 @spot x;");
        faultAt(1, many("spot", "", 6) + "@spots x;");
    }

    // ---- "the end: how many bytes there are" ----

    private static void atTheEnd() {
        String[] starts = {"spot", "spot a", "agent", "agent a", "agent a 1", "cloth c", "cloth c 1", "cloth c 1 1",
            "cloth c 1 1 bleeds", "drum d", "drum d 1", "drum d 1 1", "loads", "loads 1", "sell", "lose", "express 100",
            "spot s;agent a 1 s", "spot s;agent a 1 s 1", "agent a 1;cloth c 1 1 not", "agent a 1;cloth c 1 1 not a"};
        for (String start : starts) {
            fault(1, start.length(), start);
            fault(1, start.length() + 3, start + " \n ");
        }
        fault(1, 900, "spot" + blank(896));
        fault(1, 899, "spot" + blank(895));
    }

    // ---- "900, if there are more and no FAULT is ahead: TOKENS that begin ahead of it are read whole" ----

    private static void beyond900() {
        String before = "spot a;";
        String pad = before + blank(892);
        Bench.due("899 bytes", pad.length(), 899);
        fault(1, 900, pad + "spot b;");
        fault(1, 899, pad + "sport b;");
        fault(1, 900, pad + " spork b;");
        fault(1, 899, pad + "?");
        fault(1, 899, pad + ";" + blank(5));
        fault(1, 900, before + blank(887) + "spot bcdefgh;");
        fault(1, 899, before + blank(887) + "spot bcdefghi;");
        fault(3, 899, before + blank(887) + "spot a;");
        fault(3, 898, before + blank(886) + "spot a;" + blank(30));
        fault(1, 900, before + blank(886) + "spot b;" + blank(30));
        fault(2, 899, before + blank(886) + "loads 567;");
        fault(1, 899, before + blank(886) + "loads 4567;");
        fault(4, 899, many("drum", " 1 1", 4) + blank(851) + "drum x 1 1;");
        fault(1, 900, many("drum", " 1 1", 4) + blank(852) + "drum x 1 1;");
        fault(1, 0, "?" + blank(939));
    }

    // ---- FAULT 3: "loads, sell, lose, express told twice (at it)" ----

    private static void settingsToldTwice() {
        for (String line : new String[] {"loads 1;", "sell 1;", "lose 1;", "express 100;"}) {
            faultAt(3, line + "@" + line);
            faultAt(3, line + "spot a;@" + line.substring(0, line.indexOf(' ')));
        }
        faultAt(3, "loads 1;sell 1;lose 1;express 100;@loads 2;");
    }

    // ---- "A RULE is a text of at most 200 bytes" ----

    private static void ruleOfAtMost200Bytes() {
        rule("fast" + blank(195), 1);
        rule("fast" + blank(196), 1);
        ruleFaultAt(1, "fast" + blank(196) + "@ ");
        ruleFaultAt(1, "fast" + blank(196) + "@ or fast");
        ruleFaultAt(1, "fast" + blank(195) + "o@r fast");
        ruleFaultAt(1, blank(200) + "@ ");
        ruleFaultAt(1, blank(200) + "@");
        ruleFaultAt(1, blank(199) + "@");
        rule(blank(196) + "fast", 1);
        // a WORD that begins at 199 is read whole, and then there are more than 200
        CoatWorks x = Bench.works(CLOTH);
        Bench.due("a word at 199", Bench.rule(x, blank(199) + "fast"), -201);
        Bench.due("its fault", x.fault(), 1);
        Bench.due("no word at 199", Bench.rule(x, blank(199) + "fest"), -200);
        Bench.due("its fault", x.fault(), 1);
        Bench.due("a cloth that is not told at 199", Bench.rule(x, blank(196) + "is vest"), -200);
        Bench.due("its fault", x.fault(), 3);
        Bench.due("a cloth that is told at 199", Bench.rule(x, blank(196) + "is wool"), -201);
        Bench.due("its fault", x.fault(), 1);
        Bench.due("a number at 199", Bench.rule(x, blank(192) + "stands 6"), -200);
        Bench.due("its fault", x.fault(), 2);
        Bench.due("a number at 199, with more digits", Bench.rule(x, blank(192) + "stands 005"), -201);
        Bench.due("its fault", x.fault(), 1);
        Bench.due("a rule as long as a house", Bench.rule(x, "fast" + blank(936)), -201);
    }

    // ---- "'stands' NUMBER (0 to 5 ..)"; "WHAT SIGN NUMBER": any NUMBER ----

    private static void ruleNumbers() {
        rule("stands 0", 1);
        rule("stands 5", 1);
        rule("stands 005", 1);
        ruleFaultAt(2, "stands @6");
        ruleFaultAt(2, "stands @999");
        ruleFaultAt(1, "stands @0006");
        ruleFaultAt(1, "stands@");
        ruleFaultAt(1, "stands @=5");
        for (String what : "age late price weight size counter load loaded".split(" ")) {
            rule(what + "<0", 1);
            rule(what + "=999", 1);
            rule(what + ">999", 1);
            ruleFaultAt(1, what + "<@1000");
            ruleFaultAt(1, what + "@");
            ruleFaultAt(1, what + "<@");
            ruleFaultAt(1, what + "<@=5");
            ruleFaultAt(1, what + " @5");
            ruleFaultAt(1, what + "@;5");
        }
    }

    // ---- "'is' CLOTH"; FAULT "3 (no such CLOTH)" ----

    private static void ruleClothNames() {
        CoatWorks x = Bench.works("spot ink;agent soap 1;cloth wool 1 1;drum big 1 1;");
        for (String name : new String[] {"ink", "soap", "big", "wol", "wooll", "silk"}) {
            Bench.due("is " + name, Bench.rule(x, "is " + name), -4);
            Bench.due("fault of is " + name, x.fault(), 3);
        }
        Bench.due("is wool", Bench.rule(x, "is wool"), 1);
        Bench.due("is", Bench.rule(x, "is"), -3);
        Bench.due("fault of is", x.fault(), 1);
        Bench.due("is is", Bench.rule(x, "is is"), -4);
        Bench.due("fault of is is", x.fault(), 1);
        Bench.due("is wool of an empty house", Bench.rule(new CoatWorks(), "is wool"), -4);
    }

    // ---- "20 ONES"; FAULT "4 a 21st ONE (at its first TOKEN)" ----

    private static String joined(String one, String between, int n) {
        return one + (between + one).repeat(n - 1);
    }

    private static void twentyOnes() {
        rule(joined("fast", " or ", 19), 19);
        rule(joined("fast", " or ", 20), 20);
        ruleFaultAt(4, joined("fast", " or ", 20) + " or @fast");
        rule(joined("fast", " and ", 19), 19);
        rule(joined("fast", " and ", 20), 20);
        ruleFaultAt(4, joined("fast", " and ", 20) + " and @fast");
        ruleFaultAt(4, joined("(fast)", "and ", 10) + "and @no fast");
        rule(joined("no fast", " or ", 10), 20);
        ruleFaultAt(4, joined("no fast", " or ", 10) + " or @no fast");
        rule(joined("(fast)", "or ", 10), 20);
        ruleFaultAt(4, joined("(fast)", "or ", 10) + "or @(fast)");
        ruleFaultAt(4, joined("(fast)", "or ", 9) + "or fast and (@fast)");
        ruleFaultAt(4, joined("no fast", " or ", 9) + " or fast and no @claimed");
        rule(joined("size<5", " or ", 20), 20);
        ruleFaultAt(4, joined("fast", " or ", 20) + " or @size");
        rule(joined("is wool", " or ", 18), 18);
    }

    // ---- "8 within one another"; FAULT "4 .. a ninth within (at its first TOKEN)" ----

    private static void eightWithin() {
        rule("no ".repeat(6) + "fast", 7);
        rule("no ".repeat(7) + "fast", 8);
        ruleFaultAt(4, "no ".repeat(8) + "@fast");
        rule("(".repeat(7) + "fast" + ")".repeat(7), 8);
        ruleFaultAt(4, "(".repeat(8) + "@fast" + ")".repeat(8));
        rule("no(".repeat(3) + "no size<5" + ")".repeat(3), 8);
        ruleFaultAt(4, "no(".repeat(4) + "@size<5" + ")".repeat(4));
        ruleFaultAt(4, "(".repeat(8) + "@(");
        ruleFaultAt(4, "no ".repeat(8) + "@no");
        // beside one another they may be many
        rule("(".repeat(7) + "fast and fast and fast" + ")".repeat(7), 10);
        rule("no ".repeat(7) + "fast or " + "no ".repeat(7) + "fast", 16);
        rule("(".repeat(6) + "no fast or no fast" + ")".repeat(6) + "and fast", 11);
        ruleFaultAt(4, "(".repeat(7) + "fast or no @fast");
    }

    // ---- of one TOKEN the least, in a RULE ----

    private static void ruleFaultOfOneTokenTheLeast() {
        ruleFaultAt(1, "no ".repeat(8) + "@and");
        ruleFaultAt(1, "no ".repeat(8) + "@wool");
        ruleFaultAt(1, "no ".repeat(8) + "@");
        ruleFaultAt(1, "no ".repeat(8) + "@?");
        ruleFaultAt(1, joined("fast", " or ", 20) + " or @5");
        ruleFaultAt(1, joined("fast", " or ", 20) + " or @");
        ruleFaultAt(4, joined("fast", " or ", 20) + " or @stands 6");
        ruleFaultAt(4, "no ".repeat(8) + "@is silk");
    }

    // ---- "fault(): of the latest house() or rule(); 0 without one and ahead of any" ----

    private static void faultOfTheLatest() {
        CoatWorks x = new CoatWorks();
        Bench.due("ahead of any", x.fault(), 0);
        Bench.house(x, "agent a 100;");
        Bench.due("of a house", x.fault(), 2);
        Bench.rule(x, "is silk");
        Bench.due("of a rule", x.fault(), 3);
        Bench.house(x, "drum a 1 1;drum b 1 1;drum c 1 1;drum d 1 1;drum e 1 1;");
        Bench.due("of a house again", x.fault(), 4);
        Bench.rule(x, "fast");
        Bench.due("0 behind a good rule", x.fault(), 0);
        Bench.rule(x, "");
        Bench.due("of an empty rule", x.fault(), 1);
        Bench.loads(x, 1, 1);
        x.later(-1);
        Bench.round(x);
        Bench.due("other calls leave it", x.fault(), 1);
        Bench.house(x, "");
        Bench.due("0 behind an empty house", x.fault(), 0);
    }
}
