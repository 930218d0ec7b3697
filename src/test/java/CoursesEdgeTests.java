/** Each sentence on what is JOINED, MARKED and CLAIMED (promises 15 to 21 and part III) that names a boundary case. */
public final class CoursesEdgeTests extends Edges {
    public static void main(String[] args) {
        joinNumbers();
        joinMonths();
        seats();
        inCommon();
        wants();
        lost();
        itsFirm();
        giveUp();
        markedNumbers();
        markedWhen();
        markRule();
        claimNumbers();
        claimRefused();
        refusedFirst();
        proof();
        fundHasLess();
        backAtMost();
        backNames();
        cap();
        capNames();
        capByYearAndFirm();
        undone();
        joined();
        has();
        lapses();
        Checks.finish("CoursesEdgeTests");
    }

    /** FIRMS 0 and 1, HANDS at FIRM 0. */
    private static LearningPaid withHands(int n) {
        LearningPaid x = withFirms(2);
        for (int i = 0; i < n; i++) {
            x.hand(25, 2, 1000, 0);
        }
        return x;
    }

    // ---- Promise 15: join ----

    private static void joinNumbers() {
        sentence("15: JOINED: its number; NONE for others");
        LearningPaid x = withHands(2);
        course(x, 0, 0);
        course(x, 1, 1);
        due("hand -1", x.join(-1, 0), NONE);
        due("hand 2", x.join(2, 0), NONE);
        due("hand 60", x.join(60, 0), NONE);
        due("hand least", x.join(LEAST, 0), NONE);
        due("hand most", x.join(MOST, 0), NONE);
        due("course -1", x.join(0, -1), NONE);
        due("course 2", x.join(0, 2), NONE);
        due("course 24", x.join(0, 24), NONE);
        due("course least", x.join(0, LEAST), NONE);
        due("course most", x.join(0, MOST), NONE);
        due("none as yet", x.about(6), 0);
        due("hand 0, course 0", x.join(0, 0), 0);
        due("hand 1, course 1, the last ones", x.join(1, 1), 1);
        due("hand 0, course 1", x.join(0, 1), 2);
        due("how many", x.about(6), 3);
        sentence("III: a HAND with a FIRM");
        x.hand(25, 2, 1000, NONE);
        due("without", x.join(2, 0), NONE);
        x.go(1, NONE);
        due("without now", x.join(1, 0), NONE);
        x.go(2, 1);
        due("with one now", x.join(2, 0), 3);
        sentence("15: NONE if there are 120; III: JOINED (120 at most)");
        x = withHands(60);
        for (int i = 0; i < 7; i++) {
            course(x, i, i);
        }
        for (int i = 0; i < 120; i++) {
            due("joined", x.join(i % 60, i / 20), i);
        }
        due("one more", x.join(0, 6), NONE);
        due("how many", x.about(6), 120);
        due("the last is one", x.joined(119, 0), 59);
        due("those given up are among them", x.giveUp(119), true);
        due("one more", x.join(0, 6), NONE);
        due("the last HAND is not bound", x.bound(59), 0);
        due("it goes", x.go(59, NONE), 0);
        go(x, 6);
        due("the last but one is MARKED", x.marked(118, 90), 1);
        due("and CLAIMED", x.claim(118), 20);
        due("and drawn", x.drawn(1, 7, 0), 118);
        due("and has its PAPER", x.has(58, 0, 6), 1);
    }

    private static void joinMonths() {
        sentence("III: a COURSE whose FIRST isn't below the clock");
        LearningPaid x = withHands(4);
        course(x, 5, 7);
        x.months(4);
        due("FIRST above the clock", x.join(0, 0), 0);
        x.months(1);
        due("FIRST is the clock", x.join(1, 0), 1);
        x.months(1);
        due("FIRST below the clock", x.join(2, 0), NONE);
        x.months(1);
        due("LAST is the clock", x.join(2, 0), NONE);
        x.months(1);
        due("LAST below the clock", x.join(2, 0), NONE);
        sentence("15: NONE at 600");
        x = withHands(2);
        course(x, 599, 599);
        go(x, 599);
        due("at 599", x.join(0, 0), 0);
        x.months(1);
        due("at 600", x.join(1, 0), NONE);
        due("given up at 600", x.giveUp(0), false);
        due("MARKED at 600", x.marked(0, 90), 1);
        due("CLAIMED at 600", x.claim(0), 20);
    }

    private static void seats() {
        sentence("III: with SEATS left");
        for (int seats : new int[] {1, 2, 20}) {
            LearningPaid x = withHands(seats + 1);
            x.course(0, 0, 1, seats, 1, 0, 0, 0, 0);
            for (int hand = 0; hand < seats; hand++) {
                due("seats left", x.about(10), seats - hand);
                due("join", x.join(hand, 0), hand);
            }
            due("none left", x.about(10), 0);
            due("one more", x.join(seats, 0), NONE);
            due("given up", x.giveUp(0), true);
            due("one left", x.about(10), 1);
            due("join", x.join(seats, 0), seats);
            due("one more", x.join(0, 0), NONE);
        }
        sentence("III: SEATS of each COURSE by itself");
        LearningPaid x = withHands(1);
        x.course(0, 0, 1, 1, 1, 0, 0, 0, 0);
        x.course(0, 0, 1, 1, 1, 1, 1, 0, 0);
        x.join(0, 0);
        due("of the other", x.about(11), 1);
        due("join", x.join(0, 1), 1);
        x.months(2);
        due("behind LAST it is still taken", x.about(10), 0);
    }

    private static int beside(int first, int last) {
        LearningPaid x = withHands(1);
        course(x, 10, 12);
        course(x, first, last);
        x.join(0, 0);
        return x.join(0, 1);
    }

    private static void inCommon() {
        sentence("III: no MONTH in common with another COURSE it JOINED");
        due("8 to 9", beside(8, 9), 1);
        due("8 to 10", beside(8, 10), NONE);
        due("10 to 10", beside(10, 10), NONE);
        due("11 to 11", beside(11, 11), NONE);
        due("12 to 12", beside(12, 12), NONE);
        due("8 to 14", beside(8, 14), NONE);
        due("10 to 12", beside(10, 12), NONE);
        due("12 to 14", beside(12, 14), NONE);
        due("13 to 14", beside(13, 14), 1);
        due("0 to 9", beside(0, 9), 1);
        due("0 to 599", beside(0, 599), NONE);
        sentence("III: another COURSE it JOINED, itself");
        LearningPaid x = withHands(2);
        course(x, 10, 12);
        course(x, 12, 14);
        course(x, 13, 13);
        x.join(0, 0);
        due("another hand", x.join(1, 1), 1);
        due("the first of two", x.join(1, 0), NONE);
        due("the last of two", x.join(0, 2), 2);
        due("any of two", x.join(0, 1), NONE);
        sentence("III: and wasn't given up");
        x = withHands(1);
        course(x, 10, 12);
        course(x, 12, 14);
        x.join(0, 0);
        due("in common", x.join(0, 1), NONE);
        x.giveUp(0);
        due("given up", x.join(0, 1), 1);
        due("now the other is in common", x.join(0, 0), NONE);
        x.giveUp(1);
        due("the same anew", x.join(0, 0), 2);
    }

    private static void wants() {
        sentence("III: the HAND HAS all PAPERS in FIRST that it wants");
        LearningPaid x = withHands(2);
        x.course(0, 0, 1, 20, 1, 0, 0, 1, 0);
        x.course(0, 0, 1, 20, 1, 1, 1, 2, 0);
        x.course(0, 0, 1, 20, 1, 10, 10, 3, 1 << 1);
        x.course(0, 0, 1, 20, 1, 11, 11, 3, 1 << 1 | 1 << 2);
        x.course(0, 0, 1, 20, 1, 12, 12, 3, 1 << 1 | 1 << 2 | 1 << 3);
        x.join(0, 0);
        x.join(0, 1);
        due("of none", x.join(0, 2), NONE);
        x.months(2);
        due("not MARKED", x.join(0, 2), NONE);
        x.marked(0, 90);
        due("one of one", x.join(0, 2), 2);
        due("one of two", x.join(0, 3), NONE);
        x.marked(1, 49);
        due("didn't PASS the other", x.join(0, 3), NONE);
        due("another hand has none", x.join(1, 2), NONE);
        sentence("III: HAS .. in FIRST");
        for (int life = 1; life <= 5; life++) {
            x = withHands(1);
            x.course(0, 0, 1, 20, 1, 0, 0, 1, 0);
            x.course(0, 0, 1, 20, 1, 3, 9, 3, 1 << 1);
            x.join(0, 0);
            x.months(1);
            x.marked(0, 90);
            x.paper(1, life);
            due("LIFE " + life + ", FIRST 3", x.join(0, 1), life >= 3 ? 1 : NONE);
        }
        sentence("III: HAS .. in FIRST: as the other is over by then");
        x = withHands(1);
        x.course(0, 0, 1, 20, 1, 0, 0, 1, 0);
        x.course(0, 0, 1, 20, 1, 1, 1, 3, 1 << 1);
        x.join(0, 0);
        due("it will, but didn't PASS as yet", x.join(0, 1), NONE);
        x.months(1);
        x.marked(0, 90);
        due("FIRST is LAST + 1", x.join(0, 1), 1);
    }

    private static int lost(int wage, int hours) {
        LearningPaid x = withFirms(1);
        x.hand(20, 0, wage, 0);
        x.course(0, 0, hours, 1, 1, 0, 0, 0, 0);
        x.join(0, 0);
        return x.joined(0, 7);
    }

    private static void lost() {
        sentence("III: LOST: WAGE * HOURS / 160, cut");
        due("160 * 1", lost(160, 1), 1);
        due("159 * 1", lost(159, 1), 0);
        due("161 * 1", lost(161, 1), 1);
        due("319 * 1", lost(319, 1), 1);
        due("0 * 200", lost(0, 200), 0);
        due("5000 * 200", lost(5000, 200), 6250);
        due("4999 * 199", lost(4999, 199), 4999 * 199 / 160);
        sentence("III: LOST: .. of then");
        LearningPaid x = withHands(1);
        course(x, 0, 0);
        x.join(0, 0);
        x.wage(0, 5000);
        due("of 1000", x.joined(0, 7), 125);
        x.months(1);
        x.go(0, NONE);
        due("still", x.joined(0, 7), 125);
    }

    private static void itsFirm() {
        sentence("III: The FIRM .. is the one of it from then on");
        LearningPaid x = withFirms(3);
        x.hand(25, 2, 1000, 2);
        course(x, 0, 0);
        x.join(0, 0);
        due("firm", x.joined(0, 2), 2);
        x.go(0, 1);
        due("firm, as the hand is elsewhere", x.joined(0, 2), 2);
        x.go(0, NONE);
        due("firm, as the hand is at none", x.joined(0, 2), 2);
        x.months(1);
        rule(x, "levy 99; cap 99;", 0);
        x.months(1);
        x.marked(0, 90);
        due("it claims", x.claim(0), 20);
        due("back of it", x.firmOf(2, 0, 3), 20);
        due("not of the other", x.firmOf(1, 0, 3), 0);
        sentence("III: The FIRM pays PRICE: not from THE FUND, nor as PAID");
        x = withHands(1);
        x.course(0, 0, 1, 1, 5000, 0, 0, 0, 0);
        x.join(0, 0);
        due("fund", x.fund(), 0);
        due("paid", x.firmOf(0, 0, 2), 0);
    }

    // ---- Promise 16: giveUp ----

    private static void giveUp() {
        sentence("16: GIVEN UP: true; III: as the clock isn't above FIRST");
        for (int clock = 0; clock <= 7; clock++) {
            LearningPaid x = withHands(1);
            course(x, 4, 6);
            x.join(0, 0);
            go(x, clock);
            due("clock " + clock, x.giveUp(0), clock <= 4);
            due("is so", x.joined(0, 6), clock <= 4 ? 1 : 0);
            due("the SEAT is free", x.about(10), clock <= 4 ? 20 : 19);
        }
        sentence("16: False: none such, it was");
        LearningPaid x = withHands(2);
        course(x, 4, 6);
        due("0 of none", x.giveUp(0), false);
        x.join(0, 0);
        x.join(1, 0);
        due("-1", x.giveUp(-1), false);
        due("2", x.giveUp(2), false);
        due("120", x.giveUp(120), false);
        due("least", x.giveUp(LEAST), false);
        due("most", x.giveUp(MOST), false);
        due("1, the last", x.giveUp(1), true);
        due("it was", x.giveUp(1), false);
        due("not the other", x.joined(0, 6), 0);
        due("one SEAT is free", x.about(10), 19);
        due("the other", x.giveUp(0), true);
        due("all SEATS are free", x.about(10), 20);
    }

    // ---- Promise 17: marked ----

    private static void markedNumbers() {
        sentence("17: NONE for others; III: MARKED (0 .. 100)");
        LearningPaid x = withHands(3);
        rule(x, "mark 0;", 0);
        course(x, 0, 0);
        x.join(0, 0);
        x.join(1, 0);
        x.join(2, 0);
        x.giveUp(2);
        x.months(1);
        due("mark -1", x.marked(0, -1), NONE);
        due("mark 101", x.marked(0, 101), NONE);
        due("mark least", x.marked(0, LEAST), NONE);
        due("mark most", x.marked(0, MOST), NONE);
        due("not MARKED", x.joined(0, 3), NONE);
        due("mark 0", x.marked(0, 0), 1);
        due("MARKED", x.joined(0, 3), 0);
        due("mark 100", x.marked(1, 100), 1);
        due("MARKED", x.joined(1, 3), 100);
        due("-1", x.marked(-1, 60), NONE);
        due("3", x.marked(3, 60), NONE);
        due("120", x.marked(120, 60), NONE);
        due("least", x.marked(LEAST, 60), NONE);
        due("most", x.marked(MOST, 60), NONE);
        sentence("17: NONE for .. given up");
        due("given up", x.marked(2, 60), NONE);
        due("not MARKED", x.joined(2, 3), NONE);
        sentence("17: NONE for .. it was; III: once");
        due("0 was, with 0", x.marked(0, 100), NONE);
        due("0 stays", x.joined(0, 3), 0);
        due("1 was", x.marked(1, 100), NONE);
        x = withHands(1);
        course(x, 0, 0);
        x.join(0, 0);
        x.months(1);
        due("didn't PASS", x.marked(0, 30), 0);
        due("was", x.marked(0, 90), NONE);
        due("30 stays", x.joined(0, 3), 30);
        due("it didn't PASS", x.joined(0, 4), 0);
    }

    private static void markedWhen() {
        sentence("17: NONE for .. too early; III: as the clock is above LAST");
        for (int clock = 0; clock <= 9; clock++) {
            LearningPaid x = withHands(1);
            course(x, 3, 6);
            x.join(0, 0);
            go(x, clock);
            due("clock " + clock, x.marked(0, 90), clock > 6 ? 1 : NONE);
        }
        LearningPaid x = withHands(1);
        course(x, 0, 0);
        x.join(0, 0);
        go(x, 600);
        due("never too late", x.marked(0, 90), 1);
    }

    private static int byMark(String mark, int with) {
        LearningPaid x = withHands(1);
        rule(x, "mark " + mark + ";", 0);
        course(x, 0, 0);
        x.join(0, 0);
        x.months(1);
        return x.marked(0, with);
    }

    private static void markRule() {
        sentence("III: It PASSED with mark or more");
        due("59 of 60", byMark("60", 59), 0);
        due("60 of 60", byMark("60", 60), 1);
        due("61 of 60", byMark("60", 61), 1);
        due("99 of 100", byMark("100", 99), 0);
        due("100 of 100", byMark("100", 100), 1);
        due("0 of 0", byMark("0", 0), 1);
        due("0 of 1", byMark("1", 0), 0);
        sentence("III: (of LAST ..)");
        LearningPaid x = withHands(1);
        rule(x, "mark 20;", 3);
        rule(x, "mark 30;", 4);
        rule(x, "mark 10;", 5);
        course(x, 3, 4);
        x.join(0, 0);
        go(x, 9);
        due("29", x.marked(0, 29), 0);
        sentence("III: (.. as KNOWN then)");
        x = withHands(2);
        course(x, 3, 4);
        x.join(0, 0);
        x.join(1, 0);
        go(x, 8);
        due("by 50", x.marked(0, 40), 0);
        rule(x, "mark 40;", 4);
        due("by 40, told just now", x.marked(1, 40), 1);
        sentence("III: that stays");
        due("didn't PASS by then", x.joined(0, 4), 0);
        rule(x, "mark 99;", 4);
        x.months(1);
        due("PASSED by then", x.joined(1, 4), 1);
        due("HAS it", x.has(1, 0, 9), 1);
        due("HAS it not", x.has(0, 0, 9), 0);
    }

    // ---- Promise 18: claim ----

    private static void claimNumbers() {
        sentence("18: -5: none such, or given up");
        LearningPaid x = withHands(2);
        due("0 of none", x.claim(0), -5);
        course(x, 1, 1);
        x.join(0, 0);
        x.join(1, 0);
        due("-1", x.claim(-1), -5);
        due("2", x.claim(2), -5);
        due("120", x.claim(120), -5);
        due("least", x.claim(LEAST), -5);
        due("most", x.claim(MOST), -5);
        due("one such", x.claim(1), -1);
        x.giveUp(1);
        due("given up", x.claim(1), -5);
        go(x, 3);
        due("given up, and over", x.claim(1), -5);
    }

    private static void claimRefused() {
        sentence("III: Refused: -1 it isn't MARKED");
        LearningPaid x = withHands(2);
        course(x, 1, 1);
        x.join(0, 0);
        x.join(1, 0);
        due("not begun", x.claim(0), -1);
        go(x, 2);
        due("over", x.claim(0), -1);
        go(x, 40);
        due("long over", x.claim(0), -1);
        sentence("III: Refused: -1 .. or was CLAIMED");
        x = passed("levy 99; cap 999;");
        due("CLAIMED", x.claim(0), 20);
        due("was", x.claim(0), -1);
        due("comes back once", x.fund(), 3 * 99 - 20);
        x = passed("levy 99; cap 999; back 0;");
        due("CLAIMED, for 0", x.claim(0), 0);
        due("was", x.claim(0), -1);
        due("it is CLAIMED", x.joined(0, 5), 0);
        due("one is", x.about(7), 1);
        sentence("III: Refused: -2 it didn't PASS");
        x = withHands(1);
        course(x, 0, 0);
        x.join(0, 0);
        x.months(1);
        x.marked(0, 49);
        due("49", x.claim(0), -2);
        due("not CLAIMED", x.joined(0, 5), NONE);
    }

    private static void refusedFirst() {
        sentence("III: the first that holds");
        LearningPaid x = withHands(2);
        rule(x, "levy 0; cap 99;", 0);
        course(x, 0, 0);
        x.join(0, 0);
        x.join(1, 0);
        go(x, 20);
        due("not MARKED, too late, nothing there", x.claim(0), -1);
        x.marked(0, 10);
        due("didn't PASS, too late, nothing there", x.claim(0), -2);
        x.marked(1, 90);
        due("too late, nothing there", x.claim(1), -3);
        rule(x, "proof 60;", 0);
        due("nothing there", x.claim(1), -4);
        rule(x, "levy 99;", 0);
        x.months(1);
        due("what comes back", x.claim(1), 20);
        go(x, 100);
        due("was CLAIMED, too late", x.claim(1), -1);
    }

    private static void proof() {
        sentence("III: -3 the clock is more than proof above LAST");
        for (int proof : new int[] {1, 5, 59, 60}) {
            LearningPaid x = passed("levy 1000; cap 999; proof " + proof + ";", 3, 4);
            go(x, 4 + proof);
            due("proof " + proof + ", as many", x.claim(0), 20);
            x.appeal(0);
            x.months(1);
            due("proof " + proof + ", one more", x.claim(0), -3);
        }
        due("proof 0", passed("levy 1000; cap 999; proof 0;").claim(0), -3);
        sentence("III: proof by THE RULES of LAST as KNOWN now");
        LearningPaid x = withHands(1);
        rule(x, "levy 1000; cap 999; proof 3;", 3);
        rule(x, "proof 5;", 4);
        rule(x, "proof 4;", 5);
        course(x, 3, 4);
        x.join(0, 0);
        go(x, 9);
        x.marked(0, 90);
        due("of LAST: 5", x.claim(0), 20);
        x.appeal(0);
        x.months(1);
        due("6 above", x.claim(0), -3);
        rule(x, "proof 6;", 4);
        due("told now", x.claim(0), 20);
    }

    private static void fundHasLess() {
        sentence("III: -4 THE FUND has less");
        LearningPaid x = passed("levy 20; cap 999; back 60;");
        due("it has 60", x.fund(), 60);
        due("all of it", x.claim(0), 60);
        due("it has nothing", x.fund(), 0);
        x = passed("levy 20; cap 999; back 61;");
        due("one less", x.claim(0), -4);
        due("it isn't CLAIMED", x.joined(0, 5), NONE);
        due("nothing went", x.fund(), 60);
        x = passed("levy 20; cap 999; back 59;");
        due("one more", x.claim(0), 59);
        due("it has 1", x.fund(), 1);
        x = passed("levy 0; cap 999; back 1;");
        due("nothing there", x.claim(0), -4);
        x = passed("levy 0; cap 999; back 0;");
        due("nothing is wanted", x.claim(0), 0);
        sentence("III: THE FUND has less than what comes back, capped");
        x = passed("levy 20; cap 60; back 70;");
        due("cap 60", x.claim(0), 60);
        x = passed("levy 20; cap 61; back 70;");
        due("cap 61", x.claim(0), -4);
    }

    private static int backBy(String back) {
        return passed("levy 1000*1000; cap 9999*9999; back " + back + ";").claim(0);
    }

    private static void backAtMost() {
        sentence("III: BACK: by back (0 at least)");
        due("-1", backBy("-1"), 0);
        due("0", backBy("0"), 0);
        due("1", backBy("1"), 1);
        due("the least", backBy("-9999*9999*9999"), 0);
        sentence("III: BACK: by back (1000000 at most)");
        due("999999", backBy("1000*1000-1"), 999999);
        due("1000000", backBy("1000*1000"), 1000000);
        due("1000001", backBy("1000*1000+1"), 1000000);
        due("the most", backBy("9999*9999*9999"), 1000000);
        sentence("III: by THE RULES of LAST as KNOWN now: back");
        LearningPaid x = withHands(1);
        rule(x, "levy 1000; cap 999; back 1;", 3);
        rule(x, "back 2;", 4);
        rule(x, "back 3;", 5);
        course(x, 3, 4);
        x.join(0, 0);
        go(x, 6);
        x.marked(0, 90);
        due("of LAST", x.claim(0), 2);
        x.appeal(0);
        rule(x, "back 4;", 4);
        due("told now", x.claim(0), 4);
        due("that stays", x.joined(0, 5), 4);
    }

    private static int backOf(String back, boolean later) {
        LearningPaid x = withFirms(2);
        rule(x, "levy 202+month/12*8; cap 9999; back " + back + ";", 0);
        x.hand(41, 3, 700, 0);
        x.hand(20, 3, 60, 0);
        x.hand(22, 4, 5, 1);
        x.trade(6, 11, 1, 1);
        x.course(0, 6, 21, 5, 1001, 11, 12, 2, 0);
        go(x, 10);
        x.join(0, 0);
        go(x, 14);
        x.marked(0, 90);
        if (later) {
            x.go(0, 1);
            x.wage(1, 90);
            x.trade(6, 13, 1, 1);
            go(x, 17);
        }
        return x.claim(0);
    }

    private static void backNames() {
        sentence("III: with the NAMES of the FIRM (as it is now");
        due("wages", backOf("wages", false), 760);
        due("wages now", backOf("wages", true), 90);
        due("heads", backOf("heads", false), 2);
        due("heads now", backOf("heads", true), 1);
        sentence("III: paid in the YEAR of LAST");
        due("two months of it", backOf("paid", false), 2 * 210);
        due("five months of it", backOf("paid", true), 5 * 210);
        LearningPaid x = passed("levy 10+month; cap 999; back paid;", 9, 11);
        x.months(3);
        due("the whole of it, and no other", x.claim(0), 12 * 10 + 66);
        sentence("III: month: LAST)");
        due("month", backOf("month", false), 12);
        due("month, later", backOf("month", true), 12);
        sentence("III: hours, price of the COURSE, age of the HAND, trade and lack of the COURSE's TRADE");
        due("hours", backOf("hours", true), 21);
        due("price", backOf("price", true), 1001);
        due("age", backOf("age", true), 41);
        due("trade", backOf("trade", true), 6);
        due("lack", backOf("lack", false), 11);
        due("lack now", backOf("lack", true), 13);
    }

    /** Three that PASSED for FIRM 0 in MONTH 11, one in MONTH 12, one for FIRM 1 in MONTH 11; the clock is 13. */
    private static LearningPaid five(String text) {
        LearningPaid x = withFirms(2);
        rule(x, text, 0);
        for (int i = 0; i < 5; i++) {
            x.hand(25, 2, 1000, i == 4 ? 1 : 0);
        }
        course(x, 11, 11);
        course(x, 12, 12);
        for (int i = 0; i < 5; i++) {
            due("join", x.join(i, i == 3 ? 1 : 0), i);
        }
        go(x, 13);
        for (int i = 0; i < 5; i++) {
            due("marked", x.marked(i, 60), 1);
        }
        return x;
    }

    private static void cap() {
        sentence("III: not more than cap less all that came BACK");
        LearningPaid x = five("levy 900; back 70; cap 210;");
        due("70 of 210", x.claim(0), 70);
        due("70 of 140", x.claim(1), 70);
        due("70 of 70", x.claim(2), 70);
        x = five("levy 900; back 70; cap 209;");
        x.claim(0);
        x.claim(1);
        due("69 of 69", x.claim(2), 69);
        x = five("levy 900; back 70; cap 140;");
        x.claim(0);
        x.claim(1);
        due("0 of 0", x.claim(2), 0);
        due("that is CLAIMED", x.joined(2, 5), 0);
        due("70", passed("levy 900; back 70; cap 70;").claim(0), 70);
        due("69", passed("levy 900; back 70; cap 69;").claim(0), 69);
        due("71", passed("levy 900; back 70; cap 71;").claim(0), 70);
        sentence("III: cap (0 at least)");
        due("cap 0", passed("levy 900; back 70; cap 0;").claim(0), 0);
        due("cap -1", passed("levy 900; back 70; cap -1;").claim(0), 0);
        due("the least", passed("levy 900; back 70; cap -9999*9999*9999;").claim(0), 0);
        sentence("III: (0 if that is more)");
        x = five("levy 900; back 70; cap 100;");
        due("70 of 100", x.claim(0), 70);
        due("30 of 30", x.claim(1), 30);
        rule(x, "cap 50;", 0);
        due("100 came back of 50", x.claim(2), 0);
        x.appeal(2);
        rule(x, "cap -9999*9999*9999;", 0);
        due("100 came back of less", x.claim(2), 0);
        sentence("III: cap as high as can be");
        x = five("levy 1000*1000; back 1000*1000; cap 9999*9999*9999;");
        due("all", x.claim(0), 1000000);
        due("all", x.claim(1), 1000000);
        sentence("III: by THE RULES of LAST as KNOWN now: cap");
        x = five("levy 900; back 70;");
        rule(x, "cap 10;", 10);
        rule(x, "cap 20;", 11);
        rule(x, "cap 30;", 12);
        due("of LAST 11", x.claim(0), 20);
        due("of LAST 12", x.claim(3), 30);
        due("of LAST 11", x.claim(1), 0);
        rule(x, "cap 25;", 11);
        due("told now", x.claim(2), 5);
    }

    private static void capNames() {
        sentence("III: cap: with the NAMES of the FIRM (as it is now, paid in the YEAR of LAST, month: LAST)");
        due("wages", five("levy 900; back 9999; cap wages;").claim(0), 4000);
        due("heads", five("levy 900; back 9999; cap heads;").claim(0), 4);
        due("month", five("levy 900; back 9999; cap month;").claim(0), 11);
        due("month of another", five("levy 900; back 9999; cap month;").claim(3), 12);
        due("paid in year 0", five("levy 10+month/12; back 9999; cap paid;").claim(0), 120);
        due("paid in year 1", five("levy 10+month/12; back 9999; cap paid;").claim(3), 11);
        due("without: paid", five("levy 10+month/12; back 9999;").claim(3), 11);
        LearningPaid x = five("levy 900; back 9999; cap wages+heads;");
        x.go(1, 1);
        x.go(2, NONE);
        x.wage(3, 50);
        due("now", x.claim(0), 1050 + 2);
    }

    private static void capByYearAndFirm() {
        sentence("III: all that came BACK to the FIRM");
        LearningPaid x = five("levy 900; back 70; cap 70;");
        due("firm 0", x.claim(0), 70);
        due("firm 0 again", x.claim(1), 0);
        due("firm 1", x.claim(4), 70);
        sentence("III: for COURSES with LAST in that YEAR");
        due("LAST in year 1", x.claim(3), 70);
        due("back in year 0", x.firmOf(0, 0, 3), 70);
        due("back in year 1", x.firmOf(0, 1, 3), 70);
        x = five("levy 900; back 70; cap 70;");
        due("LAST in year 1, ahead of", x.claim(3), 70);
        due("LAST in year 0", x.claim(2), 70);
        sentence("III: YEAR of a MONTH: MONTH / 12");
        x = withFirms(1);
        rule(x, "levy 900; back 70; cap 100; proof 60;", 0);
        x.hand(25, 2, 1000, 0);
        int[] months = {0, 11, 12, 23, 24};
        for (int i = 0; i < 5; i++) {
            course(x, months[i], months[i]);
            x.join(0, i);
        }
        go(x, 25);
        int[] want = {70, 30, 70, 30, 70};
        for (int i = 0; i < 5; i++) {
            x.marked(i, 90);
            due("LAST " + months[i], x.claim(i), want[i]);
        }
        due("back in year 0", x.firmOf(0, 0, 3), 100);
        due("back in year 1", x.firmOf(0, 1, 3), 100);
        due("back in year 2", x.firmOf(0, 2, 3), 70);
        sentence("III: cap by THE RULES of LAST, less what came BACK in the YEAR of LAST, not of FIRST");
        x = withFirms(1);
        rule(x, "levy 900; back 70; proof 60; cap 50;", 0);
        rule(x, "cap 100;", 12);
        rule(x, "cap 30;", 15);
        for (int hand = 0; hand < 3; hand++) {
            x.hand(25, 2, 1000, 0);
        }
        course(x, 5, 5);
        course(x, 10, 12);
        x.join(0, 0);
        x.join(1, 1);
        x.join(2, 1);
        go(x, 26);
        for (int joined = 0; joined < 3; joined++) {
            x.marked(joined, 90);
        }
        due("LAST 5: cap 50", x.claim(0), 50);
        due("FIRST 10, LAST 12: cap 100, nothing came as yet", x.claim(1), 70);
        due("FIRST 10, LAST 12: 30 of 100 are left", x.claim(2), 30);
    }

    // ---- Promise 19: appeal ----

    private static void undone() {
        sentence("19: UNDONE: true; III: it comes back into THE FUND");
        LearningPaid x = five("levy 900; back 70; cap 100;");
        long fund = x.fund();
        x.claim(0);
        x.claim(1);
        due("70 and 30 went", x.fund(), fund - 100);
        due("appeal", x.appeal(0), true);
        due("70 came again", x.fund(), fund - 30);
        due("nothing is BACK", x.joined(0, 5), NONE);
        due("of the firm", x.firmOf(0, 0, 3), 30);
        due("one is CLAIMED", x.about(7), 1);
        due("the other stays", x.joined(1, 5), 30);
        sentence("III: may be CLAIMED again");
        due("what the cap leaves then", x.claim(2), 70);
        due("nothing is left", x.claim(0), 0);
        due("undone again", x.appeal(0), true);
        x.appeal(2);
        due("claimed again", x.claim(0), 70);
        sentence("19: False: none such, or not CLAIMED");
        x = five("levy 900; back 0; cap 100;");
        due("-1", x.appeal(-1), false);
        due("5", x.appeal(5), false);
        due("120", x.appeal(120), false);
        due("least", x.appeal(LEAST), false);
        due("most", x.appeal(MOST), false);
        due("not CLAIMED", x.appeal(4), false);
        x.claim(4);
        due("CLAIMED, for 0", x.appeal(4), true);
        due("not any more", x.appeal(4), false);
        due("0 of none", new LearningPaid().appeal(0), false);
        sentence("19: appeal, however late");
        x = five("levy 900; back 70; cap 100;");
        x.claim(0);
        go(x, 600);
        due("undone", x.appeal(0), true);
        due("but not claimed again", x.claim(0), -3);
        due("it PASSED all the same", x.joined(0, 4), 1);
    }

    // ---- Promise 20: joined ----

    private static void joined() {
        sentence("20: NONE for others");
        LearningPaid x = withHands(2);
        due("0 of none", x.joined(0, 0), NONE);
        x.course(3, 0, 16, 5, 100, 0, 0, 0, 0);
        x.course(6, 0, 32, 5, 100, 1, 1, 0, 0);
        x.join(1, 1);
        x.join(1, 0);
        for (int what = 0; what < 9; what++) {
            due("-1, " + what, x.joined(-1, what), NONE);
            due("2, " + what, x.joined(2, what), NONE);
            due("120, " + what, x.joined(120, what), NONE);
            due("least, " + what, x.joined(LEAST, what), NONE);
            due("most, " + what, x.joined(MOST, what), NONE);
        }
        for (int what : new int[] {-1, 9, 10, LEAST, MOST}) {
            due("0, " + what, x.joined(0, what), NONE);
        }
        sentence("20: 0 HAND, 1 COURSE, 2 FIRM, 3 MARK (NONE), 4 whether it PASSED, 5 BACK (NONE), 6 given up, 7 LOST, 8 TRAINER");
        long[][] want = {{1, 1, 0, NONE, 0, NONE, 0, 200, 6}, {1, 0, 0, NONE, 0, NONE, 0, 100, 3}};
        for (int what = 0; what < 9; what++) {
            due("0, " + what, x.joined(0, what), want[0][what]);
            due("1, " + what, x.joined(1, what), want[1][what]);
        }
        x.giveUp(0);
        due("given up", x.joined(0, 6), 1);
        due("hand of what was given up", x.joined(0, 0), 1);
        x.months(1);
        x.marked(1, 0);
        due("MARK 0", x.joined(1, 3), 0);
        due("didn't PASS", x.joined(1, 4), 0);
        x = passed("levy 99; cap 99; back 0;");
        x.claim(0);
        due("BACK 0", x.joined(0, 5), 0);
        due("PASSED", x.joined(0, 4), 1);
        due("MARK", x.joined(0, 3), 100);
    }

    // ---- Promise 21: has ----

    private static void has() {
        sentence("21: NONE for others");
        LearningPaid x = passed("mark 1;", 2, 3);
        due("hand -1", x.has(-1, 2, 5), NONE);
        due("hand 1", x.has(1, 2, 5), NONE);
        due("hand least", x.has(LEAST, 2, 5), NONE);
        due("hand most", x.has(MOST, 2, 5), NONE);
        due("paper -1", x.has(0, -1, 5), NONE);
        due("paper 0", x.has(0, 0, 5), 0);
        due("paper 7", x.has(0, 7, 5), 0);
        due("paper 8", x.has(0, 8, 5), NONE);
        due("paper least", x.has(0, LEAST, 5), NONE);
        due("paper most", x.has(0, MOST, 5), NONE);
        due("month -1", x.has(0, 2, -1), NONE);
        due("month 0", x.has(0, 2, 0), 0);
        due("month 599", x.has(0, 2, 599), 1);
        due("month 600", x.has(0, 2, 600), NONE);
        due("month least", x.has(0, 2, LEAST), NONE);
        due("month most", x.has(0, 2, MOST), NONE);
        sentence("Terms: a COURSE .. whose LAST is ahead of that MONTH");
        due("FIRST", x.has(0, 2, 2), 0);
        due("LAST", x.has(0, 2, 3), 0);
        due("LAST + 1", x.has(0, 2, 4), 1);
        sentence("Terms: it PASSED a COURSE that gives it");
        due("another PAPER", x.has(0, 3, 4), 0);
        x.hand(20, 0, 100, 0);
        due("another HAND", x.has(1, 2, 4), 0);
        x = withHands(1);
        x.course(0, 1, 20, 5, 1000, 0, 0, 2, 0);
        x.join(0, 0);
        x.months(1);
        due("not MARKED", x.has(0, 2, 5), 0);
        x.marked(0, 49);
        due("didn't PASS", x.has(0, 2, 5), 0);
    }

    private static void lapses() {
        sentence("Terms: by not more than LIFE");
        for (int life : new int[] {1, 2, 7, 120}) {
            LearningPaid x = passed("mark 1;", 2, 3);
            x.paper(2, life);
            due("LIFE " + life + ", LAST", x.has(0, 2, 3), 0);
            due("LIFE " + life + ", one behind", x.has(0, 2, 4), 1);
            due("LIFE " + life + ", as many behind", x.has(0, 2, 3 + life), 1);
            due("LIFE " + life + ", one more", x.has(0, 2, 4 + life), 0);
        }
        sentence("Terms: (0: at all)");
        LearningPaid x = passed("mark 1;", 2, 3);
        x.paper(2, 0);
        due("LAST", x.has(0, 2, 3), 0);
        due("one behind", x.has(0, 2, 4), 1);
        due("at all", x.has(0, 2, 599), 1);
        sentence("Terms: a COURSE that gives it, any of them");
        x = withHands(1);
        x.paper(2, 3);
        x.course(0, 1, 20, 5, 1000, 0, 0, 2, 0);
        x.course(0, 1, 20, 5, 1000, 6, 6, 2, 0);
        x.join(0, 0);
        x.join(0, 1);
        go(x, 7);
        x.marked(0, 90);
        x.marked(1, 90);
        int[] want = {0, 1, 1, 1, 0, 0, 0, 1, 1, 1, 0, 0};
        for (int month = 0; month < 12; month++) {
            due("month " + month, x.has(0, 2, month), want[month]);
        }
    }
}
