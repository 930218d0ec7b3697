import java.util.function.Consumer;

/** What the edge tests share: the sentence that a check is about, and boards that many of them begin with. */
abstract class Edges {
    static final int NONE = LearningPaid.NONE;
    static final int LEAST = Integer.MIN_VALUE;
    static final int MOST = Integer.MAX_VALUE;
    private static String sentence = "";

    /** Names the sentence of the document that the checks behind this are about. */
    static void sentence(String words) {
        sentence = words;
    }

    static void due(String call, long got, long want) {
        Checks.due("<" + sentence + "> " + call, got, want);
    }

    static void due(String call, boolean got, boolean want) {
        Checks.due("<" + sentence + "> " + call, got, want);
    }

    static LearningPaid after(Consumer<LearningPaid> script) {
        LearningPaid x = new LearningPaid();
        script.accept(x);
        return x;
    }

    static LearningPaid withFirms(int n) {
        LearningPaid x = new LearningPaid();
        for (int i = 0; i < n; i++) {
            x.firm();
        }
        return x;
    }

    /** A TEXT of these bytes, as a RULING from a MONTH on. */
    static void rule(LearningPaid x, String text, int from) {
        int number = Checks.text(x, text);
        due("text <" + text + "> is one", number != NONE, true);
        due("ruling <" + text + "> is one", x.ruling(number, from) != NONE, true);
    }

    /** Lets MONTHS go by until the clock is there. */
    static void go(LearningPaid x, int clock) {
        for (int now = x.about(0); now < clock; now = x.about(0)) {
            x.months(Math.min(60, clock - now));
        }
    }

    /** A COURSE of these MONTHS of which nothing else matters: its TRAINER, TRADE and PAPER are 0, it wants none. */
    static int course(LearningPaid x, int first, int last) {
        return x.course(0, 0, 20, 20, 1000, first, last, 0, 0);
    }

    /**
     * FIRMS 0 to 2, HAND 0 (25 years, WAGE 1000) at FIRM 0, and a COURSE of TRADE 1, 20 HOURS, PRICE 1000 and these
     * MONTHS, PAPER 2, that it JOINED as this TEXT holds; the clock is behind LAST, and it PASSED.
     */
    static LearningPaid passed(String text, int first, int last) {
        LearningPaid x = withFirms(3);
        rule(x, text, 0);
        x.hand(25, 2, 1000, 0);
        x.course(0, 1, 20, 5, 1000, first, last, 2, 0);
        due("join", x.join(0, 0), 0);
        go(x, last + 1);
        due("marked", x.marked(0, 100), 1);
        return x;
    }

    static LearningPaid passed(String text) {
        return passed(text, 0, 0);
    }

    /** As many FIRMS, HANDS at FIRM 0, COURSES (all of MONTH 0 and of 20 SEATS) as this. */
    static LearningPaid crowd(int firms, int hands, int courses) {
        LearningPaid x = withFirms(firms);
        for (int i = 0; i < hands; i++) {
            x.hand(20, 0, 100, 0);
        }
        for (int i = 0; i < courses; i++) {
            course(x, 0, 0);
        }
        return x;
    }

    /**
     * A board with something of all. FIRMS 0 to 4, HANDS 0 to 6 (3 at none), COURSES 0 to 7, TEXTS 0 to 2, two RULINGS;
     * the clock is 5, THE IMAGE of MONTH 4. JOINED: 0 HAND 0 in COURSE 0 (PASSED, CLAIMED), 1 HAND 1 in COURSE 0 (didn't
     * PASS), 2 HAND 2 in COURSE 1 (PASSED, CLAIMED), 3 HAND 0 in COURSE 2 (PASSED), 4 HAND 4 in COURSE 1 (given up),
     * 5 HAND 0 in COURSE 3 (not begun), 6 HAND 5 in COURSE 4 (not begun, its one SEAT), 7 HAND 5 in COURSE 5 (over, not
     * MARKED). THE SHEET of YEAR 0 is other in one place; "levy ?" was read last, and "stay 3; levy 1;" is on the tape.
     */
    static void town(LearningPaid x) {
        for (int i = 0; i < 4; i++) {
            x.firm();
            x.result(i, 7 * i - 9);
        }
        x.hand(30, 2, 1600, 0);
        x.hand(40, 3, 800, 0);
        x.hand(20, 2, 1000, 1);
        x.hand(50, 1, 100, NONE);
        x.hand(25, 0, 400, 2);
        x.hand(33, 4, 320, 0);
        x.hand(34, 4, 330, 1);
        x.trade(0, 2, 3, 2);
        x.trade(1, 5, 4, 3);
        x.trade(2, 3, 10, 7);
        x.paper(4, 9);
        x.paper(1, 30);
        Checks.text(x, "levy 100; stay 20; cap 9999; back hours+lack; proof 12; mark 55;");
        Checks.text(x, "levy 150+heads; member heads>0;");
        Checks.text(x, "back 7; levy paid+1;");
        x.ruling(0, 0);
        x.ruling(1, 6);
        x.course(3, 2, 80, 2, 600, 0, 0, 4, 0);
        x.course(3, 2, 40, 3, 300, 1, 2, 1, 0);
        x.course(0, 1, 10, 1, 100, 3, 3, 2, 16);
        x.course(1, 1, 10, 5, 100, 8, 9, 5, 16);
        x.course(2, 0, 20, 1, 50, 10, 10, 6, 0);
        x.course(6, 5, 30, 5, 70, 2, 3, 3, 0);
        x.course(5, 5, 30, 5, 70, 20, 23, 3, 8);
        x.course(4, 3, 16, 2, 90, 30, 31, 0, 0);
        x.join(0, 0);
        x.join(1, 0);
        x.join(2, 1);
        x.months(1);
        x.marked(0, 80);
        x.marked(1, 40);
        x.join(0, 2);
        x.join(4, 1);
        x.giveUp(4);
        x.join(0, 3);
        x.join(5, 4);
        x.join(5, 5);
        x.months(3);
        x.marked(2, 90);
        x.marked(3, 70);
        x.claim(0);
        x.claim(2);
        x.go(2, 0);
        x.go(1, NONE);
        x.image();
        x.trade(7, 4, 2, 9);
        x.wage(5, 333);
        x.months(1);
        x.firm();
        x.sheet(0);
        x.alter(1, true, 6);
        Checks.text(x, "levy ?");
        Checks.tape(x, "stay 3; levy 1;");
    }
}
