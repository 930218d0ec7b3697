import java.util.ArrayList;
import java.util.List;
import java.util.function.Consumer;

/** All that a board tells, asked of new objects that went through the same calls (an object is for 512 calls alone). */
final class State {
    private interface Probe {
        void ask(LearningPaid x, State told);
    }

    private static final Probe[] HELD = {State::books, State::hands, State::papers, State::joins, State::choices,
        State::onward};
    private static final int[] SOME_FIRMS = {0, 1, 2, 3, 4, 19};

    private final List<String> calls = new ArrayList<>();
    private final List<Long> answers = new ArrayList<>();

    private State() {
    }

    /** What an image holds, that is: all but the tape, the latest FAULT, THE SHEET and THE IMAGE. */
    static State held(Consumer<LearningPaid> script) {
        State told = new State();
        for (Probe probe : HELD) {
            probe.ask(Edges.after(script), told);
        }
        return told;
    }

    static State aside(Consumer<LearningPaid> script) {
        State told = new State();
        aside(Edges.after(script), told);
        return told;
    }

    static State all(Consumer<LearningPaid> script) {
        State told = held(script);
        aside(Edges.after(script), told);
        for (Probe probe : new Probe[] {State::books, State::hands, State::joins}) {
            LearningPaid x = Edges.after(script);
            told.put("back()", x.back());
            probe.ask(x, told);
        }
        return told;
    }

    /** The first call that the other answers otherwise; empty if there is none. */
    String otherThan(State other) {
        if (calls.size() != other.calls.size()) {
            return "other calls";
        }
        for (int i = 0; i < calls.size(); i++) {
            if (!answers.get(i).equals(other.answers.get(i))) {
                return calls.get(i) + " answers " + answers.get(i) + ", not " + other.answers.get(i);
            }
        }
        return "";
    }

    private void put(String call, long answer) {
        calls.add(call);
        answers.add(answer);
    }

    private void put(String call, boolean answer) {
        put(call, answer ? 1 : 0);
    }

    private static void books(LearningPaid x, State told) {
        for (int what = 0; what < 34; what++) {
            if (what != 8 && what != 9) {
                told.put("about " + what, x.about(what));
            }
        }
        told.put("fund", x.fund());
        for (int firm = 0; firm < 20; firm++) {
            told.put("wages of " + firm, x.firmOf(firm, 0, 0));
            told.put("heads of " + firm, x.firmOf(firm, 0, 1));
        }
        for (int firm : SOME_FIRMS) {
            for (int year = 0; year < 3; year++) {
                told.put("paid of " + firm + " in " + year, x.firmOf(firm, year, 2));
                told.put("back of " + firm + " in " + year, x.firmOf(firm, year, 3));
            }
            told.put("owed to " + firm + " by hands", x.owed(firm, -1));
            for (int by : SOME_FIRMS) {
                told.put("owed to " + firm + " by " + by, x.owed(firm, by));
            }
        }
    }

    private static void hands(LearningPaid x, State told) {
        for (int hand : new int[] {0, 1, 2, 3, 4, 5, 6, 7, 59}) {
            for (int what = 0; what < 5; what++) {
                told.put("handOf " + hand + ", " + what, x.handOf(hand, what));
            }
            told.put("bound " + hand, x.bound(hand));
            for (int paper = 0; paper < 8; paper++) {
                told.put("way of " + hand + " to " + paper, x.way(hand, paper, 0));
                told.put("courses of " + hand + " to " + paper, x.way(hand, paper, 1));
            }
        }
    }

    private static void papers(LearningPaid x, State told) {
        for (int hand = 0; hand < 7; hand++) {
            for (int paper = 0; paper < 8; paper++) {
                for (int month : new int[] {1, 4, 9, 30, 300}) {
                    told.put("has " + hand + ", " + paper + ", " + month, x.has(hand, paper, month));
                }
            }
        }
    }

    private static void joins(LearningPaid x, State told) {
        for (int joined : new int[] {0, 1, 2, 3, 4, 5, 6, 7, 8, 9, 119}) {
            for (int what = 0; what < 9; what++) {
                told.put("joined " + joined + ", " + what, x.joined(joined, what));
            }
        }
        for (int trainer = 0; trainer < 8; trainer++) {
            for (int what = 0; what < 3; what++) {
                told.put("trainer " + trainer + ", " + what, x.trainer(trainer, what));
            }
        }
        for (int n = 1; n < 4; n++) {
            for (int i = 0; i < n; i++) {
                told.put("drawn " + n + ", " + i, x.drawn(n, 7, i));
            }
        }
        for (int text = 0; text < 10; text++) {
            told.put("levies by " + text, x.tried(text, 0));
            told.put("back by " + text, x.tried(text, 1));
        }
        for (int sort = 0; sort < 7; sort++) {
            for (int month : new int[] {0, 5, 9, 599}) {
                for (int known : new int[] {0, 5, 599}) {
                    told.put("ruled " + sort + ", " + month + ", " + known, x.ruled(sort, month, known));
                }
            }
        }
    }

    private static void choices(LearningPaid x, State told) {
        for (int coins : new int[] {0, 7, 60, 2000}) {
            for (int what = -2; what < 8; what++) {
                told.put("places " + coins + ", " + what, x.places(coins, what));
            }
            told.put("proves " + coins, x.proves(coins, 3, 2));
        }
        for (int firms : new int[] {3, 15, 31}) {
            for (int what = 0; what < 4; what++) {
                told.put("trial " + firms + ", " + what, x.trial(firms, 2, what));
            }
        }
    }

    /** What comes of more calls, for what no answer tells by itself. */
    private static void onward(LearningPaid x, State told) {
        told.put("months", x.months(1));
        told.put("fund", x.fund());
        for (int joined = 0; joined < 9; joined++) {
            told.put("marked " + joined, x.marked(joined, 60));
            told.put("claim " + joined, x.claim(joined));
            told.put("giveUp " + joined, x.giveUp(joined));
        }
        for (int hand = 0; hand < 7; hand++) {
            told.put("go " + hand, x.go(hand, 3));
        }
        for (int joined = 0; joined < 9; joined++) {
            told.put("appeal " + joined, x.appeal(joined));
        }
        told.put("fund", x.fund());
        told.put("firm", x.firm());
        told.put("hand", x.hand(20, 0, 0, 0));
        told.put("course", x.course(0, 0, 1, 1, 1, 50, 50, 0, 0));
        told.put("join", x.join(5, x.about(3) - 1));
        told.put("ruling", x.ruling(0, 0));
    }

    private static void aside(LearningPaid x, State told) {
        told.put("bytes", x.about(8));
        told.put("fault", x.fault(0));
        told.put("place", x.fault(1));
        for (int what = 0; what < 3; what++) {
            told.put("check " + what, x.check(what));
        }
        told.put("alter", x.alter(3, false, 1));
        told.put("check altered", x.check(0));
        told.put("sheet", x.sheet(0));
        told.put("text", x.text());
        told.put("fault of it", x.fault(0));
        told.put("place of it", x.fault(1));
        told.put("levies by it", x.tried(x.about(4) - 1, 0));
        told.put("bytes left", x.about(8));
    }
}
