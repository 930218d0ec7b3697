/** Each sentence of promises 24 to 27, 35 to 37, 40 and 41, and on WAGES and levies, that names a boundary case. */
public final class BooksEdgeTests extends Edges {
    public static void main(String[] args) {
        months();
        eachFirm();
        levyAtMost();
        namesOfFirms();
        rulesOfTheMonth();
        firmOfNumbers();
        paidByYear();
        handOf();
        trainer();
        sheet();
        alter();
        check();
        placesOfSheet();
        aboutNumbers();
        about();
        fund();
        Checks.finish("BooksEdgeTests");
    }

    // ---- Promise 24: months, and what goes by ----

    private static void months() {
        sentence("24: n MONTHS go by (1 .. 60): the clock; NONE for others");
        LearningPaid x = withFirms(1);
        rule(x, "levy 1;", 0);
        for (int n : new int[] {LEAST, -1, 0, 61, 62, 600, MOST}) {
            due("months(" + n + ")", x.months(n), NONE);
            due("the clock stays", x.about(0), 0);
            due("nothing is levied", x.fund(), 0);
        }
        due("months(1)", x.months(1), 1);
        due("one went by", x.fund(), 1);
        due("months(60)", x.months(60), 61);
        due("sixty went by", x.fund(), 61);
        sentence("24: NONE .. beyond 600");
        go(x, 541);
        due("to 601", x.months(60), NONE);
        due("the clock stays", x.about(0), 541);
        due("nothing is levied", x.fund(), 541);
        due("to 600", x.months(59), 600);
        due("all went by", x.fund(), 600);
        due("to 601", x.months(1), NONE);
        due("the clock", x.about(0), 600);
        x = new LearningPaid();
        go(x, 540);
        due("to 600 at once", x.months(60), 600);
    }

    private static void eachFirm() {
        sentence("III: A MONTH goes by: each FIRM: WAGES: of all its HANDS");
        LearningPaid x = withFirms(3);
        x.hand(20, 0, 1000, 0);
        x.hand(20, 0, 2500, 0);
        x.hand(20, 0, 700, 2);
        x.hand(20, 0, 5000, NONE);
        x.months(1);
        due("firm 0", x.firmOf(0, 0, 2), 35);
        due("firm 1", x.firmOf(1, 0, 2), 0);
        due("firm 2", x.firmOf(2, 0, 2), 7);
        due("the fund", x.fund(), 42);
        x.go(1, 2);
        x.go(0, NONE);
        x.months(1);
        due("firm 0, without any", x.firmOf(0, 0, 2), 35);
        due("firm 2, with another", x.firmOf(2, 0, 2), 7 + 32);
        due("the fund", x.fund(), 42 + 32);
        sentence("III: levy wages / 100 of them together, cut");
        x = withFirms(1);
        x.hand(20, 0, 150, 0);
        x.hand(20, 0, 150, 0);
        x.months(1);
        due("3, not 1 and 1", x.fund(), 3);
        x = withFirms(1);
        x.hand(20, 0, 99, 0);
        x.months(1);
        due("99", x.fund(), 0);
        sentence("III: FIRMS that are there as the MONTH goes by");
        x = withFirms(1);
        rule(x, "levy 5;", 0);
        x.months(2);
        x.firm();
        due("nothing of what went by", x.firmOf(1, 0, 2), 0);
        x.months(1);
        due("of one", x.firmOf(1, 0, 2), 5);
        x = withFirms(20);
        rule(x, "levy 5;", 0);
        x.months(1);
        due("of twenty", x.fund(), 100);
        due("of the last", x.firmOf(19, 0, 2), 5);
        sentence("III: all 60 HANDS at one FIRM");
        x = withFirms(1);
        for (int i = 0; i < 60; i++) {
            x.hand(20, 0, 5000, 0);
        }
        due("wages", x.firmOf(0, 0, 0), 300000);
        due("heads", x.firmOf(0, 0, 1), 60);
        x.months(1);
        due("levied", x.fund(), 3000);
    }

    private static long levied(String levy) {
        LearningPaid x = withFirms(1);
        rule(x, "levy " + levy + ";", 0);
        x.months(1);
        due("paid by " + levy, x.firmOf(0, 0, 2), x.fund());
        return x.fund();
    }

    private static void levyAtMost() {
        sentence("III: it owes levy (0 at least)");
        due("-1", levied("-1"), 0);
        due("0", levied("0"), 0);
        due("1", levied("1"), 1);
        due("the least", levied("-9999*9999*9999"), 0);
        sentence("III: it owes levy (1000000 at most)");
        due("999999", levied("1000*1000-1"), 999999);
        due("1000000", levied("1000*1000"), 1000000);
        due("1000001", levied("1000*1000+1"), 1000000);
        due("the most", levied("9999*9999*9999"), 1000000);
        sentence("III: if member is so");
        due("so", levied("7; member 1=1"), 7);
        due("not so", levied("7; member 1=2"), 0);
        LearningPaid x = withFirms(3);
        x.hand(20, 0, 0, 1);
        x.hand(20, 0, 100, 2);
        rule(x, "levy 7; member heads>0;", 0);
        x.months(1);
        due("without heads", x.firmOf(0, 0, 2), 0);
        due("with one", x.firmOf(1, 0, 2), 7);
        due("with one", x.firmOf(2, 0, 2), 7);
        rule(x, "member wages>0;", 0);
        x.months(1);
        due("without wages", x.firmOf(1, 0, 2), 7);
        due("with wages", x.firmOf(2, 0, 2), 14);
    }

    private static void namesOfFirms() {
        sentence("III: paid (PAID in the YEAR of the month at hand)");
        LearningPaid x = withFirms(2);
        rule(x, "levy 1+paid;", 0);
        x.months(1);
        due("month 0", x.firmOf(0, 0, 2), 1);
        x.months(1);
        due("month 1", x.firmOf(0, 0, 2), 3);
        x.months(9);
        due("month 10", x.firmOf(0, 0, 2), 2047);
        x.months(1);
        due("month 11", x.firmOf(0, 0, 2), 4095);
        due("of each by itself", x.firmOf(1, 0, 2), 4095);
        x.months(1);
        due("month 12 begins anew", x.firmOf(0, 1, 2), 1);
        due("year 0 stays", x.firmOf(0, 0, 2), 4095);
        x = withFirms(1);
        rule(x, "levy 1+paid;", 0);
        x.months(14);
        due("all at once too", x.fund(), 4095 + 3);
        sentence("III: month");
        x = withFirms(1);
        rule(x, "levy month;", 0);
        x.months(4);
        due("0 + 1 + 2 + 3", x.fund(), 6);
        go(x, 599);
        long fund = x.fund();
        x.months(1);
        due("599", x.fund(), fund + 599);
    }

    private static void rulesOfTheMonth() {
        sentence("III: A MONTH m goes by (as KNOWN in m): by THE RULES of m");
        LearningPaid x = withFirms(1);
        rule(x, "levy 10;", 0);
        rule(x, "levy 20;", 3);
        rule(x, "member month=4;", 4);
        x.months(3);
        due("months 0 to 2", x.fund(), 30);
        x.months(1);
        due("month 3", x.fund(), 50);
        x.months(1);
        due("month 4", x.fund(), 70);
        x.months(1);
        due("month 5", x.fund(), 70);
        sentence("III: .. a RULING that is told as the clock is m holds for m");
        rule(x, "member month>5;", 6);
        x.months(1);
        due("month 6", x.fund(), 90);
    }

    // ---- Promise 25: firmOf ----

    private static void firmOfNumbers() {
        sentence("25: NONE for others: FIRMS");
        LearningPaid x = withFirms(2);
        for (int what = 0; what < 4; what++) {
            due("-1, " + what, x.firmOf(-1, 0, what), NONE);
            due("1, " + what, x.firmOf(1, 0, what), 0);
            due("2, " + what, x.firmOf(2, 0, what), NONE);
            due("20, " + what, x.firmOf(20, 0, what), NONE);
            due("least, " + what, x.firmOf(LEAST, 0, what), NONE);
            due("most, " + what, x.firmOf(MOST, 0, what), NONE);
        }
        sentence("25: NONE for others (YEAR 0 .. 49)");
        for (int what = 0; what < 4; what++) {
            due("-1, " + what, x.firmOf(0, -1, what), NONE);
            due("0, " + what, x.firmOf(0, 0, what), 0);
            due("49, " + what, x.firmOf(0, 49, what), 0);
            due("50, " + what, x.firmOf(0, 50, what), NONE);
            due("least, " + what, x.firmOf(0, LEAST, what), NONE);
            due("most, " + what, x.firmOf(0, MOST, what), NONE);
        }
        sentence("25: 0 WAGES, 1 heads, 2 PAID, 3 BACK; NONE for others");
        for (int what : new int[] {-1, 4, 5, LEAST, MOST}) {
            due("what " + what, x.firmOf(0, 0, what), NONE);
        }
        sentence("25: 0 WAGES now, 1 heads, whatever the YEAR");
        x.hand(20, 0, 70, 0);
        x.hand(20, 0, 8, 0);
        due("wages", x.firmOf(0, 0, 0), 78);
        due("wages", x.firmOf(0, 49, 0), 78);
        due("heads", x.firmOf(0, 0, 1), 2);
        due("heads", x.firmOf(0, 49, 1), 2);
        x.go(0, NONE);
        due("wages now", x.firmOf(0, 0, 0), 8);
        due("heads now", x.firmOf(0, 0, 1), 1);
    }

    private static void paidByYear() {
        sentence("25: 2 PAID in a YEAR; Terms: YEAR of a MONTH: MONTH / 12");
        LearningPaid x = withFirms(1);
        rule(x, "levy 1+month/12;", 0);
        int[][] want = {{0, 0, 0, 0}, {1, 1, 0, 0}, {11, 11, 0, 0}, {12, 12, 0, 0}, {13, 12, 2, 0}, {23, 12, 22, 0},
            {24, 12, 24, 0}, {25, 12, 24, 3}, {36, 12, 24, 36}};
        for (int[] w : want) {
            go(x, w[0]);
            for (int year = 0; year < 3; year++) {
                due("year " + year + " at " + w[0], x.firmOf(0, year, 2), w[1 + year]);
            }
            due("all at " + w[0], x.fund(), w[1] + w[2] + w[3]);
        }
        go(x, 588);
        due("the last YEAR", x.firmOf(0, 49, 2), 0);
        x.months(1);
        due("the last YEAR", x.firmOf(0, 49, 2), 50);
        x.months(11);
        due("the last YEAR", x.firmOf(0, 49, 2), 600);
        due("the one ahead", x.firmOf(0, 48, 2), 588);
        sentence("25: 3 BACK for COURSES with LAST in it");
        x = withFirms(2);
        rule(x, "levy 9000; cap 9999; proof 60;", 0);
        x.hand(20, 0, 100, 0);
        int[][] courses = {{0, 0}, {11, 11}, {12, 12}, {22, 24}};
        for (int i = 0; i < 4; i++) {
            x.course(0, 0, 10 + i, 5, 1, courses[i][0], courses[i][1], 0, 0);
            x.join(0, i);
        }
        go(x, 30);
        for (int i = 0; i < 4; i++) {
            x.marked(i, 90);
            due("claim", x.claim(i), 10 + i);
        }
        due("year 0", x.firmOf(0, 0, 3), 10 + 11);
        due("year 1", x.firmOf(0, 1, 3), 12);
        due("year 2: LAST, not FIRST, and not now", x.firmOf(0, 2, 3), 13);
        due("year 3", x.firmOf(0, 3, 3), 0);
        due("another FIRM", x.firmOf(1, 0, 3), 0);
    }

    // ---- Promises 26, 27: handOf, trainer ----

    private static void handOf() {
        sentence("26: 0 AGE, 1 TRADE, 2 WAGE, 3 FIRM (NONE), 4 what it owes by itself; NONE for others");
        LearningPaid x = withFirms(2);
        x.hand(14, 7, 5000, 1);
        x.hand(80, 0, 0, NONE);
        long[][] want = {{14, 7, 5000, 1, 0}, {80, 0, 0, NONE, 0}};
        for (int what = 0; what < 5; what++) {
            due("0, " + what, x.handOf(0, what), want[0][what]);
            due("1, " + what, x.handOf(1, what), want[1][what]);
            for (int hand : new int[] {-1, 2, 60, LEAST, MOST}) {
                due(hand + ", " + what, x.handOf(hand, what), NONE);
            }
        }
        for (int what : new int[] {-1, 5, LEAST, MOST}) {
            due("0, " + what, x.handOf(0, what), NONE);
        }
        x.months(60);
        due("AGE stays", x.handOf(0, 0), 14);
    }

    private static void trainer() {
        sentence("27: NONE for others: TRAINERS 0 .. 7");
        LearningPaid x = new LearningPaid();
        for (int what = 0; what < 3; what++) {
            due("-1, " + what, x.trainer(-1, what), NONE);
            due("0, " + what, x.trainer(0, what), 0);
            due("7, " + what, x.trainer(7, what), 0);
            due("8, " + what, x.trainer(8, what), NONE);
            due("least, " + what, x.trainer(LEAST, what), NONE);
            due("most, " + what, x.trainer(MOST, what), NONE);
        }
        sentence("27: 0 MARKED, 1 PASSED, 2 MARKS together; NONE for others");
        for (int what : new int[] {-1, 3, LEAST, MOST}) {
            due("0, " + what, x.trainer(0, what), NONE);
        }
        sentence("27: how many were MARKED in its COURSES, PASSED, their MARKS together");
        x = withFirms(1);
        for (int i = 0; i < 4; i++) {
            x.hand(20, 0, 100, 0);
        }
        x.course(7, 0, 1, 5, 1, 0, 0, 0, 0);
        x.course(0, 0, 1, 5, 1, 0, 0, 0, 0);
        x.course(7, 0, 1, 5, 1, 1, 1, 0, 0);
        x.join(0, 0);
        x.join(1, 0);
        x.join(2, 1);
        x.join(3, 0);
        x.join(0, 2);
        x.months(2);
        due("JOINED alone", x.trainer(7, 0), 0);
        x.marked(0, 0);
        due("MARKED with 0", x.trainer(7, 0), 1);
        due("didn't PASS", x.trainer(7, 1), 0);
        due("MARKS", x.trainer(7, 2), 0);
        x.marked(1, 100);
        x.marked(2, 60);
        x.marked(4, 49);
        due("MARKED", x.trainer(7, 0), 3);
        due("PASSED", x.trainer(7, 1), 1);
        due("MARKS, of those that didn't PASS too", x.trainer(7, 2), 149);
        due("the other: MARKED", x.trainer(0, 0), 1);
        due("the other: PASSED", x.trainer(0, 1), 1);
        due("the other: MARKS", x.trainer(0, 2), 60);
    }

    // ---- Promises 35 to 37: sheet, alter, check ----

    private static void sheet() {
        sentence("35: THE SHEET of a YEAR is taken: true. False for others (YEAR 0 .. 49)");
        LearningPaid x = withFirms(1);
        for (int year : new int[] {-1, 50, LEAST, MOST}) {
            due("year " + year, x.sheet(year), false);
            due("none was taken", x.check(0), NONE);
        }
        due("year 0", x.sheet(0), true);
        due("it was", x.check(0), 0);
        x = new LearningPaid();
        due("year 49", x.sheet(49), true);
        due("it was", x.check(0), 0);
        sentence("IV: SHEET of a YEAR: PAID and BACK of FIRMS");
        x = passed("levy 99; cap 99;");
        x.sheet(0);
        due("as they are", x.check(0), 0);
        x.claim(0);
        due("BACK is other", x.check(0), 1);
        x.months(1);
        due("PAID of three too", x.check(0), 4);
        x.sheet(0);
        due("taken anew", x.check(0), 0);
        x.sheet(1);
        x.months(1);
        due("of another YEAR", x.check(0), 0);
        x.appeal(0);
        due("of another YEAR", x.check(0), 0);
        go(x, 12);
        due("of another YEAR", x.check(0), 0);
        x.months(1);
        due("of that YEAR", x.check(0), 3);
        sentence("35: False for others: the one that was taken stays");
        due("year 50", x.sheet(50), false);
        due("of that YEAR", x.check(0), 3);
    }

    private static void alter() {
        sentence("36: False .. none was taken");
        LearningPaid x = withFirms(1);
        due("PAID", x.alter(0, false, 1), false);
        due("BACK", x.alter(0, true, 1), false);
        x.sheet(50);
        due("none was", x.alter(0, true, 1), false);
        x.sheet(0);
        due("nothing was altered", x.check(0), 0);
        sentence("36: False for others (FIRMS 0 .. 19)");
        for (int firm : new int[] {-1, 20, 21, LEAST, MOST}) {
            due("PAID of " + firm, x.alter(firm, false, 1), false);
            due("BACK of " + firm, x.alter(firm, true, 1), false);
        }
        due("nothing was altered", x.check(0), 0);
        for (int firm = 0; firm < 20; firm++) {
            for (int side = 0; side < 2; side++) {
                due("altered " + firm, x.alter(firm, side == 1, 1 << firm), true);
                due("one is other", x.check(0), 1);
                due("that FIRM", x.check(1), firm);
                due("that side", x.check(2), side);
                due("altered again", x.alter(firm, side == 1, 1 << firm), true);
                due("none is", x.check(0), 0);
            }
        }
        sentence("36: by a mask (not 0)");
        due("mask 0", x.alter(0, false, 0), false);
        due("mask 0", x.alter(0, true, 0), false);
        due("none is other", x.check(0), 0);
        for (int mask : new int[] {1, -1, LEAST, MOST, 1 << 30}) {
            due("mask " + mask, x.alter(0, true, mask), true);
            due("other", x.check(0), 1);
            due("mask " + mask, x.alter(0, true, mask), true);
            due("as ahead of both", x.check(0), 0);
        }
        sentence("IV: altered by masks (exclusive or)");
        x.alter(0, true, 5);
        x.alter(0, true, 1);
        due("4 of 5 is left", x.check(0), 1);
        x.alter(0, true, 4);
        due("nothing is", x.check(0), 0);
        x.alter(0, true, 6);
        x.alter(0, true, 3);
        due("6 and 3 are 5", x.check(0), 1);
        x.alter(0, true, 5);
        due("nothing is", x.check(0), 0);
        x.alter(0, false, 1);
        x.alter(0, true, 1);
        due("each side by itself", x.check(0), 2);
    }

    private static void check() {
        sentence("37: NONE for others, or none was taken");
        LearningPaid x = withFirms(3);
        for (int what : new int[] {-1, 0, 1, 2, 3}) {
            due("none was taken: " + what, x.check(what), NONE);
        }
        x.sheet(0);
        x.alter(2, true, 1);
        for (int what : new int[] {-1, 3, 4, LEAST, MOST}) {
            due("what " + what, x.check(what), NONE);
        }
        sentence("37: 1 the FIRM of the one, 2 which (0 PAID, 1 BACK)");
        due("one", x.check(0), 1);
        due("FIRM", x.check(1), 2);
        due("BACK", x.check(2), 1);
        sentence("37: NONE if it isn't one");
        x.alter(2, true, 1);
        due("none", x.check(0), 0);
        due("FIRM of none", x.check(1), NONE);
        due("which of none", x.check(2), NONE);
        x.alter(0, false, 1);
        x.alter(1, false, 1);
        due("two", x.check(0), 2);
        due("FIRM of two", x.check(1), NONE);
        due("which of two", x.check(2), NONE);
        x.alter(1, false, 1);
        x.alter(0, true, 1);
        due("both of one FIRM", x.check(0), 2);
        due("FIRM of both", x.check(1), NONE);
        due("which of both", x.check(2), NONE);
    }

    private static void placesOfSheet() {
        sentence("37: 0 how many places are other: up to 40");
        LearningPaid x = withFirms(1);
        x.sheet(0);
        for (int firm = 0; firm < 20; firm++) {
            x.alter(firm, false, 1);
            due("places", x.check(0), 2 * firm + 1);
            x.alter(firm, true, 1);
            due("places", x.check(0), 2 * firm + 2);
        }
        sentence("IV: FIRMS 0 .. 19 (0 of none)");
        x = withFirms(1);
        rule(x, "levy 5;", 0);
        x.months(1);
        x.sheet(0);
        due("FIRMS 1 to 19 are none", x.check(0), 0);
        x.firm();
        due("one that is new owes nothing as yet", x.check(0), 0);
        x.months(1);
        due("now both do", x.check(0), 2);
        sentence("IV: CHECKED against the books as they are then");
        x = passed("levy 64; cap 99;");
        x.sheet(0);
        x.claim(0);
        due("by a claim: BACK 20", x.check(0), 1);
        due("of FIRM 0", x.check(1), 0);
        due("BACK", x.check(2), 1);
        x.alter(0, true, 20);
        due("altered to 20", x.check(0), 0);
        x.appeal(0);
        due("by an appeal", x.check(0), 1);
        x = withFirms(1);
        rule(x, "levy 64;", 0);
        x.months(1);
        x.sheet(0);
        x.months(1);
        due("by a levy", x.check(0), 1);
        due("PAID", x.check(2), 0);
        x.alter(0, false, 64 ^ 128);
        due("altered to 128", x.check(0), 0);
    }

    // ---- Promises 40, 41: about, fund ----

    private static void aboutNumbers() {
        sentence("40: NONE for others");
        LearningPaid x = crowd(1, 1, 24);
        for (int what : new int[] {-1, 9, 34, 35, LEAST, LEAST + 9, LEAST + 10, MOST, MOST - 1}) {
            due("about " + what, x.about(what), NONE);
        }
        sentence("40: 10 + course: SEATS left");
        for (int course = 0; course < 24; course++) {
            due("course " + course, x.about(10 + course), 20);
        }
        x = crowd(1, 1, 2);
        due("course 1, the last", x.about(11), 20);
        due("course 2, which isn't one", x.about(12), NONE);
        due("course 23", x.about(33), NONE);
        due("course 0 of none", new LearningPaid().about(10), NONE);
    }

    private static void about() {
        sentence("40: 0 the clock, 1 FIRMS, 2 HANDS, 3 COURSES, 4 TEXTS, 5 RULINGS, 6 JOINED ones, 7 those CLAIMED, 8 bytes");
        LearningPaid x = crowd(2, 6, 4);
        Checks.text(x, "levy 900; cap 999;");
        Checks.text(x, "");
        Checks.text(x, "stay 0;");
        for (int i = 0; i < 8; i++) {
            x.ruling(0, 0);
        }
        for (int i = 0; i < 5; i++) {
            x.join(i, 0);
        }
        x.giveUp(4);
        x.months(7 - 2);
        x.marked(0, 90);
        x.claim(0);
        Checks.tape(x, "123456789");
        int[] want = {5, 2, 6, 4, 3, 8, 5, 1, 9};
        for (int what = 0; what < 9; what++) {
            due("about " + what, x.about(what), want[what]);
        }
        sentence("40: 6 JOINED ones, given up or not");
        due("five", x.about(6), 5);
        sentence("40: 7 those CLAIMED (now)");
        x.appeal(0);
        due("none any more", x.about(7), 0);
        x.claim(0);
        due("one again", x.about(7), 1);
        sentence("40: 10 + course: SEATS left");
        due("four are taken", x.about(10), 16);
        due("of the other none", x.about(11), 20);
    }

    private static void fund() {
        sentence("41: THE FUND: beyond 32 bits");
        LearningPaid x = withFirms(20);
        rule(x, "levy 1000*1000; member month<150;", 0);
        go(x, 107);
        due("2140000000", x.fund(), 2140000000L);
        x.months(1);
        due("2160000000", x.fund(), 2160000000L);
        go(x, 215);
        due("3000000000", x.fund(), 3000000000L);
        x = withFirms(20);
        rule(x, "levy 1000*1000; cap 9999*9999; back 1000*1000;", 0);
        x.hand(20, 0, 0, 0);
        course(x, 599, 599);
        x.join(0, 0);
        go(x, 600);
        due("all that can be", x.fund(), 12000000000L);
        x.marked(0, 90);
        due("claimed from it", x.claim(0), 1000000);
        due("less that", x.fund(), 11999000000L);
        due("appeal", x.appeal(0), true);
        due("with that again", x.fund(), 12000000000L);
    }
}
