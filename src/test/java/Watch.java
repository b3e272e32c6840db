import java.util.ArrayList;
import java.util.List;
import java.util.NoSuchElementException;

/** All that can be asked of an object, so that what a call changed, or left, can be seen. */
final class Watch {
    private final CoatWorks x;
    private final List<String> questions = new ArrayList<>();
    private final List<Long> answers = new ArrayList<>();

    private Watch(CoatWorks x) {
        this.x = x;
    }

    /** A works in which something is told of everything, with two images and seven bytes on the tape. */
    static CoatWorks richWorks() {
        CoatWorks x = Bench.works("spot s;spot t;agent a 5 s 10;agent b 4 s 12 t 3;cloth c 5 100 bleeds not b;cloth d 4 200;"
                + "drum p 9 7;drum o 7 3;loads 1;sell 3;lose 5;express 200;");
        x.later(2);
        x.image(1);
        x.ticket(2, 10, 1, 3, 1, 2);
        x.ticket(100, 20, 2, 5, 1, 4);
        x.ticket(3, 30, 3, 7, 39, 25);
        x.later(4);
        x.ticket(4, 40, 4, 9, 0, 30);
        x.news(0, 1, 3);
        x.news(0, 1, 4);
        x.news(1, 2, 5);
        x.claim(0);
        x.loaded(0, 9);
        x.loaded(1, 9);
        x.drum(9, 0);
        x.contract(1, 1, 7);
        x.place(3, 60, 70);
        x.solvent(50, 4, 30);
        x.solvent(5, 1, 10);
        Bench.rule(x, "is c and load<10 or size=3");
        x.image(0);
        x.later(1);
        x.news(3, 3, 7);
        x.recall(0, 6);
        x.causes();
        Bench.best(x, 1, 12, 8);
        Bench.found(x, 1, 0, 3, 1, 10, 10);
        Bench.round(x, 3, 4, 39);
        Bench.rule(x, "stands 6");
        Bench.feedText(x, "size<03");
        return x;
    }

    /** Whether two objects answer all questions alike; both are used up by it. */
    static void alike(String when, CoatWorks got, CoatWorks want) {
        Watch a = new Watch(got).askAll();
        Watch b = new Watch(want).askAll();
        Bench.due(when + ": how many questions", a.questions.size(), b.questions.size());
        for (int i = 0; i < Math.min(a.answers.size(), b.answers.size()); i++) {
            Bench.due(when + ": " + b.questions.get(i), a.answers.get(i), b.answers.get(i));
        }
    }

    private void note(String question, long answer) {
        questions.add(question);
        answers.add(answer);
    }

    private Watch askAll() {
        askLatest("");
        askState("");
        askTape();
        askSearches("");
        for (int k = 0; k < 2; k++) {
            note("restore(" + k + ")", x.restore(k) ? 1 : 0);
            askState("restored " + k + ", ");
        }
        return this;
    }

    /** What the latest calls left. */
    private void askLatest(String when) {
        note(when + "fault()", x.fault());
        for (int i = -1; i < 4; i++) {
            note(when + "sure(" + i + ")", x.sure(i));
            note(when + "bestAt(" + i + ")", x.bestAt(i));
            note(when + "recalled(" + i + ")", x.recalled(i));
            note(when + "cause(" + i + ")", x.cause(i));
            note(when + "roundAt(" + i + ")", x.roundAt(i));
        }
    }

    private void askState(String when) {
        for (int what = 0; what < 10; what++) {
            note(when + "count(" + what + ")", x.count(what));
        }
        int today = x.count(6);
        for (int t = 0; t < x.count(4); t++) {
            for (int what = 0; what < 10; what++) {
                note(when + "about(" + t + ", " + what + ")", x.about(t, what));
            }
            note(when + "stands(" + t + ", today)", x.stands(t, today, today));
            note(when + "stands(" + t + ", 4, 199)", x.stands(t, 4, 199));
            note(when + "twice(" + t + ")", x.twice(t));
        }
        for (int i = 0; i < 3; i++) {
            note(when + "open(" + (i + 1) + ")", x.open(i + 1));
            note(when + "owed(" + i + ")", x.owed(i));
            note(when + "unfetched(40, " + i + ")", x.unfetched(40, i));
            note(when + "run(" + (i - 1) + ")", x.run(i - 1));
            note(when + "meets(" + (i - 1) + ")", x.meets(i - 1));
            note(when + "possible(" + (99 + i) + ")", x.possible(99 + i));
            note(when + "possible(" + (200 + i) + ")", x.possible(200 + i));
        }
        note(when + "possible(9)", x.possible(9));
        for (int d = 0; d <= x.count(8); d++) {
            note(when + "lost(" + d + ")", lostOr(d, -77777));
        }
        note(when + "broken()", x.broken());
    }

    private long lostOr(int d, long instead) {
        try {
            return x.lost(d);
        } catch (NoSuchElementException e) {
            return instead;
        }
    }

    /** The tape's bytes, read as a RULE. */
    private void askTape() {
        note("the tape as a rule", x.rule());
        note("its fault", x.fault());
        for (int k = -1; k < 3; k++) {
            note("meets(" + k + ") by the tape", x.meets(k));
        }
    }

    /** What only a search shows of the HOUSE and of what was told. */
    private void askSearches(String when) {
        note(when + "is c", Bench.rule(x, "is c"));
        note(when + "recall(0, 6)", x.recall(0, 6));
        note(when + "recall(1, 0)", x.recall(1, 0));
        note(when + "causes()", x.causes());
        note(when + "round", Bench.round(x, 3, 4, 39));
        note(when + "best(0)", Bench.best(x, 0, 12, 8));
        note(when + "best(1)", Bench.best(x, 1, 12, 8));
        note(when + "out(1, 1)", Bench.out(x, 1, 1, 12, 8));
        note(when + "loads", Bench.loads(x, 2));
        note(when + "patience", Bench.patience(x, 2));
        note(when + "hurry", Bench.hurry(x, 2));
        note(when + "found", Bench.found(x, 1, 0, 3, 1, 10, 10));
        note(when + "ticket", x.ticket(105, 70, 1, 1, 1, 20));
        note(when + "its cost", x.count(4) == 0 ? -1 : x.about(x.count(4) - 1, 8));
        note(when + "news", x.news(0, 2, x.count(6)));
    }
}
