/** Each sentence on STAY and leaving (promises 14, 22, 23 and part III) that names a boundary case. */
public final class LeavingEdgeTests extends Edges {
    public static void main(String[] args) {
        goNumbers();
        isThere();
        bound();
        owedNumbers();
        rest();
        stayAtMost();
        cut();
        byRulesOfLast();
        names();
        namesAsAhead();
        whichCourses();
        once();
        onceForNothing();
        whoOwes();
        together();
        Checks.finish("LeavingEdgeTests");
    }

    // ---- Promises 14, 22, 23: what they take ----

    private static void goNumbers() {
        sentence("14: A HAND goes to a FIRM; NONE for others");
        LearningPaid x = withFirms(3);
        x.hand(20, 0, 100, 0);
        x.hand(20, 0, 10, 0);
        due("hand -1", x.go(-1, 1), NONE);
        due("hand 2", x.go(2, 1), NONE);
        due("least", x.go(LEAST, 1), NONE);
        due("most", x.go(MOST, 1), NONE);
        due("firm -2", x.go(0, -2), NONE);
        due("firm 3", x.go(0, 3), NONE);
        due("firm 20", x.go(0, 20), NONE);
        due("firm least", x.go(0, LEAST), NONE);
        due("firm most", x.go(0, MOST), NONE);
        due("still there", x.handOf(0, 3), 0);
        due("hand 1, the last, to firm 2, the last", x.go(1, 2), 0);
        due("is there", x.handOf(1, 3), 2);
        due("heads of it", x.firmOf(2, 0, 1), 1);
        due("wages of it", x.firmOf(2, 0, 0), 10);
        due("heads of the other", x.firmOf(0, 0, 1), 1);
        due("wages of the other", x.firmOf(0, 0, 0), 100);
        due("back to firm 0", x.go(1, 0), 0);
        due("heads again", x.firmOf(0, 0, 1), 2);
        due("none such", new LearningPaid().go(0, NONE), NONE);
        sentence("14: (NONE: to none)");
        due("to none", x.go(0, NONE), 0);
        due("is at none", x.handOf(0, 3), NONE);
        due("heads", x.firmOf(0, 0, 1), 1);
    }

    private static void isThere() {
        sentence("14: NONE if it is there");
        LearningPaid x = passed("stay 10;");
        due("at firm 0", x.go(0, 0), NONE);
        due("nothing is owed", x.owed(0, 0), 0);
        due("it is bound as ahead of that", x.bound(0), 1000);
        due("to none", x.go(0, NONE), 1000);
        due("at none", x.go(0, NONE), NONE);
        due("owes no more", x.handOf(0, 4), 1000);
        due("to firm 2", x.go(0, 2), 0);
        due("at firm 2", x.go(0, 2), NONE);
    }

    private static void bound() {
        sentence("22: What a HAND would owe, or be owed for, if it left its FIRM now");
        LearningPaid x = passed("stay 10;");
        due("bound", x.bound(0), 1000);
        due("asked again", x.bound(0), 1000);
        x.months(3);
        due("now", x.bound(0), 700);
        due("as it leaves", x.go(0, 1), 700);
        sentence("22: NONE: no such HAND");
        x = passed("stay 10;");
        due("-1", x.bound(-1), NONE);
        due("1", x.bound(1), NONE);
        due("60", x.bound(60), NONE);
        due("least", x.bound(LEAST), NONE);
        due("most", x.bound(MOST), NONE);
        sentence("22: (0 without a FIRM.)");
        x.hand(20, 0, 100, NONE);
        due("never at one", x.bound(1), 0);
        x.go(0, NONE);
        due("at none", x.bound(0), 0);
    }

    private static void owedNumbers() {
        sentence("23: to a FIRM, by a FIRM; NONE for others");
        LearningPaid x = withFirms(2);
        due("-1, 0", x.owed(-1, 0), NONE);
        due("2, 0", x.owed(2, 0), NONE);
        due("least, 0", x.owed(LEAST, 0), NONE);
        due("most, 0", x.owed(MOST, 0), NONE);
        due("0, -2", x.owed(0, -2), NONE);
        due("0, 2", x.owed(0, 2), NONE);
        due("0, least", x.owed(0, LEAST), NONE);
        due("0, most", x.owed(0, MOST), NONE);
        due("0, 1", x.owed(0, 1), 0);
        due("1, 0", x.owed(1, 0), 0);
        due("1, 1", x.owed(1, 1), 0);
        due("0, NONE", x.owed(0, NONE), 0);
        due("1, NONE", x.owed(1, NONE), 0);
        due("20 firms", withFirms(20).owed(19, 19), 0);
        due("20 firms", withFirms(20).owed(19, 20), NONE);
        due("no firms", new LearningPaid().owed(0, NONE), NONE);
    }

    // ---- STAY and REST ----

    private static long boundAt(String text, int clock) {
        LearningPaid x = passed(text);
        go(x, clock);
        return x.bound(0);
    }

    private static void rest() {
        sentence("III: REST: LAST + 1 + STAY - m MONTHS (STAY at most)");
        due("m is LAST + 1", boundAt("stay 10;", 1), 1000);
        due("m is LAST + 2", boundAt("stay 10;", 2), 900);
        sentence("III: REST: .. (0 at least)");
        due("m is LAST + STAY", boundAt("stay 10;", 10), 100);
        due("m is LAST + STAY + 1", boundAt("stay 10;", 11), 0);
        due("m is LAST + STAY + 2", boundAt("stay 10;", 12), 0);
        due("long behind", boundAt("stay 10;", 300), 0);
        due("stay 1", boundAt("stay 1;", 1), 1000);
        due("stay 1, behind", boundAt("stay 1;", 2), 0);
        sentence("III: a HAND leaves in MONTH m, 600 too");
        LearningPaid x = passed("stay 10;", 595, 598);
        due("at 599", x.bound(0), 1000);
        x.months(1);
        due("at 600", x.bound(0), 900);
        due("goes at 600", x.go(0, 1), 900);
    }

    private static void stayAtMost() {
        sentence("III: stay (0 at least)");
        due("0", boundAt("stay 0;", 1), 0);
        due("-1", boundAt("stay -1;", 1), 0);
        due("the least", boundAt("stay -9999*9999*9999;", 1), 0);
        due("1", boundAt("stay 1;", 1), 1000);
        sentence("III: stay (60 at most)");
        due("59", boundAt("stay 59;", 11), 1000 * 49 / 59);
        due("60", boundAt("stay 60;", 11), 1000 * 50 / 60);
        due("61", boundAt("stay 61;", 11), 1000 * 50 / 60);
        due("the most", boundAt("stay 9999*9999*9999;", 11), 1000 * 50 / 60);
        due("60, its last month", boundAt("stay 61;", 60), 1000 / 60);
        due("60, behind", boundAt("stay 61;", 61), 0);
    }

    private static long bound(int price, int stay, int clock) {
        LearningPaid x = withFirms(1);
        rule(x, "stay " + stay + ";", 0);
        x.hand(25, 2, 1000, 0);
        x.course(0, 1, 20, 5, price, 0, 0, 2, 0);
        x.join(0, 0);
        x.months(1);
        x.marked(0, 100);
        go(x, clock);
        return x.bound(0);
    }

    private static void cut() {
        sentence("III: PRICE * REST / STAY, cut");
        due("999 * 2 / 3", bound(999, 3, 2), 666);
        due("1000 * 2 / 3", bound(1000, 3, 2), 666);
        due("1001 * 2 / 3", bound(1001, 3, 2), 667);
        due("1 * 6 / 7", bound(1, 7, 2), 0);
        due("1 * 7 / 7", bound(1, 7, 1), 1);
        due("0", bound(0, 7, 1), 0);
        due("5000 * 59 / 60", bound(5000, 60, 2), 5000 * 59 / 60);
    }

    private static void byRulesOfLast() {
        sentence("III: by THE RULES of LAST");
        LearningPaid x = withFirms(1);
        rule(x, "stay 10;", 3);
        rule(x, "stay 20;", 4);
        rule(x, "stay 40;", 5);
        x.hand(25, 2, 1000, 0);
        x.course(0, 1, 20, 5, 1000, 2, 4, 2, 0);
        x.join(0, 0);
        go(x, 10);
        x.marked(0, 100);
        due("not of FIRST, nor of now", x.bound(0), 1000 * (4 + 1 + 20 - 10) / 20);
        sentence("III: as KNOWN in the MONTH at hand");
        rule(x, "stay 30;", 4);
        due("as told now", x.bound(0), 1000 * (4 + 1 + 30 - 10) / 30);
        x = passed("levy 10;");
        due("none was told", x.bound(0), 0);
        x.months(4);
        rule(x, "stay 10;", 0);
        due("told now", x.bound(0), 600);
    }

    private static void names() {
        sentence("III: with the same NAMES: of the FIRM, hours, price of the COURSE, age of the HAND, trade and lack");
        due("wages", boundAt("stay wages/50;", 11), 500);
        due("heads", boundAt("stay heads*20;", 11), 500);
        due("hours", boundAt("stay hours;", 11), 500);
        due("price", boundAt("stay price/50;", 11), 500);
        due("age", boundAt("stay age-5;", 11), 500);
        due("trade of the COURSE", boundAt("stay trade*20;", 11), 500);
        LearningPaid x = passed("stay lack;");
        go(x, 11);
        due("lack at first", x.bound(0), 0);
        x.trade(1, 20, 1, 1);
        x.trade(2, 40, 1, 1);
        due("lack of the COURSE's TRADE now", x.bound(0), 500);
        x.trade(1, 40, 1, 1);
        due("lack now", x.bound(0), 750);
        sentence("III: with the same NAMES: month: LAST");
        x = passed("stay month;", 18, 20);
        go(x, 31);
        due("LAST is 20", x.bound(0), 500);
        sentence("III: with the same NAMES: paid in the YEAR of LAST");
        x = passed("stay paid-24;levy 2+month/12*8;", 12, 12);
        due("paid 10 as yet", x.bound(0), 0);
        x.months(4);
        due("paid 50 as yet", x.bound(0), 1000 * (12 + 1 + 26 - 17) / 26);
        x = passed("stay paid/10;levy 2+month/12*8;", 23, 23);
        go(x, 30);
        due("paid 120 in YEAR 1, 108 in this one", x.bound(0), 1000 * (23 + 1 + 12 - 30) / 12);
    }

    private static void namesAsAhead() {
        sentence("III: all NAMES as ahead of that");
        LearningPaid x = passed("stay heads*10+wages/1000;");
        x.hand(30, 0, 9, 0);
        x.months(2);
        due("with both", x.bound(0), 1000 * (1 + 21 - 3) / 21);
        due("goes", x.go(0, 1), 1000 * (1 + 21 - 3) / 21);
        x = withFirms(2);
        rule(x, "stay wages/100;", 0);
        x.hand(30, 0, 1000, 0);
        x.hand(30, 0, 1000, 0);
        x.course(0, 1, 20, 5, 1000, 0, 0, 2, 0);
        x.course(0, 1, 20, 5, 500, 1, 1, 3, 0);
        x.join(0, 0);
        x.join(1, 0);
        x.join(0, 1);
        x.months(2);
        for (int joined = 0; joined < 3; joined++) {
            x.marked(joined, 100);
        }
        due("both of its COURSES by both WAGES", x.go(0, 1), 1000 * 19 / 20 + 500);
        due("the other by its WAGES alone", x.go(1, 1), 1000 * 9 / 10);
    }

    // ---- Which COURSES, and once ----

    private static void whichCourses() {
        sentence("III: STAY of what PASSED");
        LearningPaid x = withFirms(2);
        rule(x, "stay 10;", 0);
        x.hand(30, 0, 1000, 0);
        x.hand(30, 0, 1000, 0);
        course(x, 0, 0);
        x.join(0, 0);
        x.join(1, 0);
        due("not over", x.bound(0), 0);
        x.months(1);
        due("not MARKED", x.bound(0), 0);
        x.marked(0, 49);
        due("didn't PASS", x.bound(0), 0);
        x.marked(1, 50);
        due("of another HAND", x.bound(0), 0);
        due("PASSED", x.bound(1), 1000);
        sentence("III: a HAND leaves a FIRM: for each such COURSE of that FIRM");
        x = withFirms(3);
        rule(x, "stay 60;", 0);
        x.hand(30, 0, 1000, 0);
        x.course(0, 1, 20, 5, 600, 0, 0, 2, 0);
        x.course(0, 1, 20, 5, 120, 2, 2, 2, 0);
        x.join(0, 0);
        x.months(1);
        x.go(0, 1);
        x.join(0, 1);
        x.months(2);
        due("passed the first at firm 1", x.marked(0, 90), 1);
        due("passed the second at firm 1", x.marked(1, 90), 1);
        due("of firm 1 alone", x.bound(0), 120);
        due("goes to firm 0", x.go(0, 0), 120);
        due("owed to firm 1 by firm 0", x.owed(1, 0), 120);
        due("of firm 0 alone", x.bound(0), 600 * 58 / 60);
        due("goes to firm 2", x.go(0, 2), 580);
        due("owed to firm 0 by firm 2", x.owed(0, 2), 580);
    }

    private static void once() {
        sentence("III: once; of each COURSE, the first time it leaves it behind that");
        LearningPaid x = passed("stay 10;");
        due("goes", x.go(0, 1), 1000);
        due("comes back", x.go(0, 0), 0);
        due("bound no more", x.bound(0), 0);
        due("goes again", x.go(0, 1), 0);
        due("owed once", x.owed(0, 1), 1000);
        x = passed("stay 10;");
        due("to none", x.go(0, NONE), 1000);
        due("comes back", x.go(0, 0), 0);
        due("to none again", x.go(0, NONE), 0);
        due("owes once", x.handOf(0, 4), 1000);
        sentence("III: once: what it PASSED later is another");
        x = withFirms(2);
        rule(x, "stay 10;", 0);
        x.hand(30, 0, 1000, 0);
        x.course(0, 1, 20, 5, 600, 0, 0, 2, 0);
        x.course(0, 1, 20, 5, 120, 0 + 1, 1, 2, 0);
        x.join(0, 0);
        x.join(0, 1);
        x.months(2);
        x.marked(0, 90);
        due("leaves the one", x.go(0, 1), 540);
        due("PASSED the other", x.marked(1, 90), 1);
        due("comes back", x.go(0, 0), 0);
        due("bound by the other", x.bound(0), 120);
        due("leaves it", x.go(0, 1), 120);
        due("comes back", x.go(0, 0), 0);
        due("bound no more", x.bound(0), 0);
        sentence("III: behind that: leaving ahead of having PASSED isn't that time");
        x = withFirms(2);
        rule(x, "stay 10;", 0);
        x.hand(30, 0, 1000, 0);
        course(x, 0, 0);
        x.join(0, 0);
        due("as it goes on", x.go(0, 1), 0);
        due("comes back", x.go(0, 0), 0);
        x.months(1);
        due("behind LAST, not MARKED", x.go(0, 1), 0);
        x.marked(0, 90);
        due("comes back", x.go(0, 0), 0);
        due("bound", x.bound(0), 1000);
        due("leaves it", x.go(0, NONE), 1000);
    }

    private static void onceForNothing() {
        sentence("III: the first time it leaves it, though nothing was due then");
        LearningPaid x = passed("stay 3;");
        go(x, 10);
        due("nothing is due", x.go(0, 1), 0);
        rule(x, "stay 60;", 0);
        x.go(0, 0);
        due("that was its time", x.bound(0), 0);
        x = passed("stay 0;");
        due("stay 0", x.go(0, 1), 0);
        rule(x, "stay 60;", 0);
        x.go(0, 0);
        due("that was its time too", x.bound(0), 0);
        sentence("III: asking what it is bound by is not leaving");
        x = passed("stay 10;");
        x.bound(0);
        x.bound(0);
        due("goes", x.go(0, 1), 1000);
    }

    private static void whoOwes() {
        sentence("III: Who takes it owes that to the FIRM");
        LearningPaid x = passed("stay 10;");
        x.go(0, 2);
        due("firm 2", x.owed(0, 2), 1000);
        due("not firm 1", x.owed(0, 1), 0);
        due("nor the hand", x.owed(0, NONE), 0);
        due("nor by its own books", x.handOf(0, 4), 0);
        due("not the other way", x.owed(2, 0), 0);
        due("the fund has no part in it", x.fund(), 10);
        sentence("III: without one it does itself; 23: (by HANDS themselves: NONE); 26: what it owes by itself");
        x = passed("stay 10;");
        x.go(0, NONE);
        due("the hand", x.handOf(0, 4), 1000);
        due("by hands", x.owed(0, NONE), 1000);
        for (int firm = 0; firm < 3; firm++) {
            due("not firm " + firm, x.owed(0, firm), 0);
            due("to another", x.owed(firm, NONE), firm == 0 ? 1000 : 0);
        }
        due("goes to another then", x.go(0, 1), 0);
        due("still owes it itself", x.handOf(0, 4), 1000);
        due("that one owes nothing", x.owed(0, 1), 0);
    }

    private static void together() {
        sentence("23: What was owed for HANDS who left, together");
        LearningPaid x = withFirms(3);
        rule(x, "stay 10;", 0);
        for (int hand = 0; hand < 5; hand++) {
            x.hand(30, 0, 1000, 0);
        }
        x.course(0, 1, 20, 5, 600, 0, 0, 2, 0);
        for (int hand = 0; hand < 5; hand++) {
            x.join(hand, 0);
        }
        x.months(1);
        for (int hand = 0; hand < 5; hand++) {
            x.marked(hand, 90);
        }
        x.go(0, 1);
        x.months(1);
        x.go(1, 1);
        x.go(2, NONE);
        x.months(1);
        x.go(3, NONE);
        x.go(4, 2);
        due("by firm 1", x.owed(0, 1), 600 + 540);
        due("by firm 2", x.owed(0, 2), 480);
        due("by hands", x.owed(0, NONE), 540 + 480);
        due("hand 2", x.handOf(2, 4), 540);
        due("hand 3", x.handOf(3, 4), 480);
        due("hand 0", x.handOf(0, 4), 0);
    }
}
