/** Each sentence of part II on what CLAUSES answer and on RULINGS, and of promises 12 and 13, that names a boundary case. */
public final class RulesEdgeTests extends Edges {
    private static final String BILLION = "1000*1000*1000";

    public static void main(String[] args) {
        orders();
        divided();
        cut();
        cutAtEachStep();
        asks();
        bindings();
        names();
        ruling();
        rulingsAtMost();
        ruledNumbers();
        rule();
        told();
        without();
        sorts();
        Checks.finish("RulesEdgeTests");
    }

    /** Whether what stands on both sides is the same (each at most 1000000000, at least less that). */
    private static void same(String left, String right) {
        due(left + " is " + right, isMember(left + "=" + right), true);
        due(left + " is not other than " + right, isMember(left + "#" + right), false);
    }

    private static boolean isMember(String either) {
        LearningPaid x = withFirms(1);
        rule(x, "levy 5; member " + either + ";", 0);
        x.months(1);
        return x.fund() == 5;
    }

    // ---- SUMS ----

    private static void orders() {
        sentence("II: From the left");
        same("100-10-20", "70");
        same("100-10+20", "110");
        same("100/10/3", "3");
        same("100/10*3", "30");
        same("7/2*2", "6");
        same("2*7/2", "7");
        same("5*3/4*4", "12");
        same("1-2-3-4", "0-8");
        sentence("II: SUM: PRODUCT {+ or - PRODUCT}. PRODUCT: ONE {* or / ONE}");
        same("2+3*4", "14");
        same("2*3+4", "10");
        same("20-6/4", "19");
        same("20/6-4", "0-1");
        sentence("II: ONE: NUMBER, NAME, ( SUM ), - ONE, min ( SUM , SUM ), max likewise");
        same("(2+3)*4", "20");
        same("2*(3+4)", "14");
        same("20-(6-4)", "18");
        same("100/(10/3)", "33");
        same("-2*3", "0-6");
        same("-2+3", "1");
        same("2*-3", "0-6");
        same("2--3", "5");
        same("--3", "3");
        same("-(2+3)", "0-5");
        same("-min(1,2)", "0-1");
        same("min(1,2)", "1");
        same("min(2,1)", "1");
        same("min(2,2)", "2");
        same("min(-1,-2)", "0-2");
        same("max(1,2)", "2");
        same("max(2,1)", "2");
        same("max(2,2)", "2");
        same("max(-1,-2)", "0-1");
        same("min(1+1,3*4)*max(2-1,3/3)", "2");
        same("max(min(1,5),min(4,3))", "3");
        same("000012", "12");
        same("9999+1", "100*100");
    }

    private static void divided() {
        sentence("II: / cuts towards 0");
        same("7/2", "3");
        same("-7/2", "0-3");
        same("7/-2", "0-3");
        same("-7/-2", "3");
        same("(0-7)/2", "0-3");
        same("1/2", "0");
        same("-1/2", "0");
        same("1/-2", "0");
        same("-6/2", "0-3");
        same("6/7", "0");
        same("7/7", "1");
        same("-7/7", "0-1");
        sentence("II: by 0 it is 0");
        same("7/0", "0");
        same("-7/0", "0");
        same("0/0", "0");
        same("9+7/0", "9");
        same("9+7/(1-1)*5", "9");
        same("9+7/-0", "9");
        same(BILLION + "/0", "0");
        same("7/(1/2)", "0");
    }

    private static void cut() {
        sentence("II: what is above 1000000000 is that");
        same(BILLION + "+1", BILLION);
        same(BILLION + "+9999", BILLION);
        same("1+" + BILLION, BILLION);
        same(BILLION + "-0", BILLION);
        same(BILLION + "--1", BILLION);
        same(BILLION + "*2", BILLION);
        same("9999*9999*9999", BILLION);
        same(BILLION + "/1", BILLION);
        due("just below it stays", isMember(BILLION + "-1<" + BILLION), true);
        due("just below it is not cut", isMember(BILLION + "-1+1=" + BILLION), true);
        same("(" + BILLION + "-1)/1000", "999*1000+999");
        same("(" + BILLION + "-2+1)/1000", "999*1000+999");
        same("(" + BILLION + "-2+3)/1000", "1000*1000");
        same("(" + BILLION + "+1-1)/1000", "999*1000+999");
        sentence("II: (below the same less)");
        same("-" + BILLION + "-1", "-" + BILLION);
        same("0-" + BILLION + "-9999", "-" + BILLION);
        same("-1-" + BILLION, "-" + BILLION);
        same("-" + BILLION + "*2", "-" + BILLION);
        same(BILLION + "*-2", "-" + BILLION);
        same("-9999*9999*9999", "-" + BILLION);
        due("just above it stays", isMember("1-" + BILLION + ">-" + BILLION), true);
        due("just above it is not cut", isMember("1-" + BILLION + "-1=-" + BILLION), true);
        same("(1-" + BILLION + ")/1000", "0-999*1000-999");
        same("(0-" + BILLION + "-1+1)/1000", "0-999*1000-999");
    }

    private static void cutAtEachStep() {
        sentence("II: at each step");
        same("9999*9999*9999/9999", "1000*100+10");
        same("9999*9999*9999-9999*9999*9999", "0");
        same(BILLION + "*1000/1000", "1000*1000");
        same(BILLION + "*(" + BILLION + ")/(1000*1000)", "1000");
        same(BILLION + "+" + BILLION + "-" + BILLION, "0");
        same("-" + BILLION + "-" + BILLION + "+" + BILLION, "0");
        same(BILLION + "+5-5", BILLION + "-5");
        same("min(" + BILLION + "+5," + BILLION + ")", BILLION);
        same("max(5-" + BILLION + "-10,-" + BILLION + ")", "-" + BILLION);
        same("--" + BILLION, BILLION);
        same("-(" + BILLION + "*2)", "-" + BILLION);
        sentence("II: .. beyond 32 bits too");
        same("9999*9999*43", BILLION);
        same("9999*9999*22", BILLION);
        same("-9999*9999*43", "-" + BILLION);
        same(BILLION + "*(" + BILLION + ")", BILLION);
        same("-" + BILLION + "*(" + BILLION + ")", "-" + BILLION);
        same("-" + BILLION + "*-(" + BILLION + ")", BILLION);
    }

    // ---- EITHERS ----

    private static void asks() {
        sentence("II: SUM one of < <= > >= = # (unlike) SUM");
        for (int left = 1; left <= 3; left++) {
            due(left + "<2", isMember(left + "<2"), left < 2);
            due(left + "<=2", isMember(left + "<=2"), left <= 2);
            due(left + ">2", isMember(left + ">2"), left > 2);
            due(left + ">=2", isMember(left + ">=2"), left >= 2);
            due(left + "=2", isMember(left + "=2"), left == 2);
            due(left + "#2", isMember(left + "#2"), left != 2);
            due("-" + left + "<-2", isMember("-" + left + "<-2"), -left < -2);
            due("-" + left + ">-2", isMember("-" + left + ">-2"), -left > -2);
        }
        due("sums on both sides", isMember("1+1<2*2"), true);
        due("sums on both sides", isMember("2*2-4=4/5"), true);
        sentence("II: not ASK");
        due("not so", isMember("not 1=1"), false);
        due("not not so", isMember("not not 1=1"), true);
        due("not other", isMember("not 1=2"), true);
        due("eight", isMember("not not not not not not not not 1=1"), true);
        due("seven", isMember("not not not not not not not 1=1"), false);
    }

    private static void bindings() {
        sentence("II: BOTH: ASK {and ASK}");
        for (int bits = 0; bits < 8; bits++) {
            boolean a = (bits & 1) != 0;
            boolean b = (bits & 2) != 0;
            boolean c = (bits & 4) != 0;
            String sa = a ? "1=1" : "1=2";
            String sb = b ? "1=1" : "1=2";
            String sc = c ? "1=1" : "1=2";
            due(sa + " and " + sb, isMember(sa + " and " + sb), a && b);
            due(sa + " and " + sb + " and " + sc, isMember(sa + " and " + sb + " and " + sc), a && b && c);
        }
        sentence("II: EITHER: BOTH {or BOTH}");
        for (int bits = 0; bits < 16; bits++) {
            boolean a = (bits & 1) != 0;
            boolean b = (bits & 2) != 0;
            boolean c = (bits & 4) != 0;
            boolean d = (bits & 8) != 0;
            String sa = a ? "1=1" : "1=2";
            String sb = b ? "1=1" : "1=2";
            String sc = c ? "1=1" : "1=2";
            String sd = d ? "1=1" : "1=2";
            due("or " + bits, isMember(sa + " or " + sb), a || b);
            due("or or " + bits, isMember(sa + " or " + sb + " or " + sc), a || b || c);
            due("or and " + bits, isMember(sa + " or " + sb + " and " + sc), a || b && c);
            due("and or " + bits, isMember(sa + " and " + sb + " or " + sc), a && b || c);
            due("and or and " + bits, isMember(sa + " and " + sb + " or " + sc + " and " + sd), a && b || c && d);
            due("or and or " + bits, isMember(sa + " or " + sb + " and " + sc + " or " + sd), a || b && c || d);
            due("not and " + bits, isMember("not " + sa + " and " + sb), !a && b);
            due("not or " + bits, isMember("not " + sa + " or " + sb), !a || b);
            due("or not and not " + bits, isMember(sa + " or not " + sb + " and not " + sc), a || !b && !c);
        }
    }

    /** What came BACK by this SUM for a COURSE of TRADE 5 (LACK 17), 23 HOURS, PRICE 1234, LAST 13, HAND 41 years. */
    private static long back(String sum) {
        LearningPaid x = withFirms(2);
        rule(x, "levy 1000; cap 9999*9999; back " + sum + ";", 0);
        x.trade(5, 17, 1, 1);
        x.hand(41, 3, 700, 0);
        x.hand(20, 3, 60, 0);
        x.hand(20, 3, 5000, 1);
        x.course(0, 5, 23, 5, 1234, 12, 13, 0, 0);
        x.join(0, 0);
        go(x, 15);
        x.marked(0, 90);
        return x.claim(0);
    }

    private static void names() {
        sentence("II: NAMES: wages heads paid month hours price age trade lack");
        due("wages", back("wages"), 760);
        due("heads", back("heads"), 2);
        due("paid", back("paid"), 3000);
        due("month", back("month"), 13);
        due("hours", back("hours"), 23);
        due("price", back("price"), 1234);
        due("age", back("age"), 41);
        due("trade", back("trade"), 5);
        due("lack", back("lack"), 17);
        LearningPaid x = withFirms(2);
        rule(x, "levy wages+10*heads+month; member heads>0 and wages>0 and month>0 and paid<2000;", 0);
        x.hand(41, 3, 700, 0);
        x.hand(41, 3, 60, 0);
        x.months(1);
        due("not in month 0", x.fund(), 0);
        x.months(1);
        due("month 1", x.fund(), 781);
        x.months(2);
        due("months 2 and 3", x.fund(), 781 + 782 + 783);
        x.months(1);
        due("paid too much", x.fund(), 781 + 782 + 783);
    }

    // ---- Promise 12: ruling, 13: ruled ----

    private static void ruling() {
        sentence("12: A RULING: how many there are; NONE for others: TEXTS");
        LearningPaid x = new LearningPaid();
        due("0 of none", x.ruling(0, 0), NONE);
        Checks.text(x, "levy 1;");
        Checks.text(x, "levy 2;");
        due("-1", x.ruling(-1, 0), NONE);
        due("0", x.ruling(0, 0), 1);
        due("1, the last", x.ruling(1, 0), 2);
        due("2", x.ruling(2, 0), NONE);
        due("9", x.ruling(9, 0), NONE);
        due("10", x.ruling(10, 0), NONE);
        due("least", x.ruling(LEAST, 0), NONE);
        due("most", x.ruling(MOST, 0), NONE);
        due("two are there", x.about(5), 2);
        due("the same again", x.ruling(1, 0), 3);
        sentence("12: (from any MONTH); NONE for others");
        due("from -1", x.ruling(0, -1), NONE);
        due("from 599", x.ruling(0, 599), 4);
        due("from 600", x.ruling(0, 600), NONE);
        due("from least", x.ruling(0, LEAST), NONE);
        due("from most", x.ruling(0, MOST), NONE);
        go(x, 600);
        due("from 0, long gone by", x.ruling(0, 0), 5);
        due("from 599, gone by", x.ruling(0, 599), 6);
        due("from 600", x.ruling(0, 600), NONE);
        due("six are there", x.about(5), 6);
    }

    private static void rulingsAtMost() {
        sentence("12: NONE if there are 40; II: RULINGS (40 at most)");
        LearningPaid x = withFirms(1);
        Checks.text(x, "levy 1;");
        Checks.text(x, "levy 2;");
        for (int i = 1; i < 40; i++) {
            due("ruling", x.ruling(0, i % 3), i);
        }
        due("the last one", x.ruling(1, 2), 40);
        due("it holds", x.ruled(1, 2, 0), 1);
        due("one more", x.ruling(0, 2), NONE);
        due("40 stay", x.about(5), 40);
        due("the last one holds", x.ruled(1, 2, 0), 1);
        x.months(3);
        due("levied by them", x.fund(), 1 + 1 + 2);
    }

    private static void ruledNumbers() {
        LearningPaid x = new LearningPaid();
        sentence("13: (sort 0 .. 6); -2 for others");
        due("-1", x.ruled(-1, 0, 0), -2);
        due("0", x.ruled(0, 0, 0), NONE);
        due("6", x.ruled(6, 0, 0), NONE);
        due("7", x.ruled(7, 0, 0), -2);
        due("least", x.ruled(LEAST, 0, 0), -2);
        due("most", x.ruled(MOST, 0, 0), -2);
        sentence("13: -2 for others: MONTHS 0 .. 599");
        due("-1", x.ruled(0, -1, 0), -2);
        due("599", x.ruled(0, 599, 0), NONE);
        due("600", x.ruled(0, 600, 0), -2);
        due("least", x.ruled(0, LEAST, 0), -2);
        due("most", x.ruled(0, MOST, 0), -2);
        due("known -1", x.ruled(0, 0, -1), -2);
        due("known 599", x.ruled(0, 0, 599), NONE);
        due("known 600", x.ruled(0, 0, 600), -2);
        due("known least", x.ruled(0, 0, LEAST), -2);
        due("known most", x.ruled(0, 0, MOST), -2);
    }

    private static void rule() {
        sentence("II: from m or ahead");
        LearningPaid x = new LearningPaid();
        Checks.text(x, "levy 1;");
        Checks.text(x, "levy 2;");
        Checks.text(x, "levy 3; mark 3;");
        x.ruling(0, 10);
        due("9", x.ruled(1, 9, 0), NONE);
        due("10", x.ruled(1, 10, 0), 0);
        due("11", x.ruled(1, 11, 0), 0);
        due("599", x.ruled(1, 599, 0), 0);
        due("0", x.ruled(1, 0, 0), NONE);
        sentence("II: that with the greatest from");
        x.ruling(1, 20);
        due("19", x.ruled(1, 19, 0), 0);
        due("20", x.ruled(1, 20, 0), 1);
        x.ruling(2, 15);
        due("14", x.ruled(1, 14, 0), 0);
        due("15", x.ruled(1, 15, 0), 2);
        due("19", x.ruled(1, 19, 0), 2);
        due("20, though told ahead of that", x.ruled(1, 20, 0), 1);
        sentence("II: of like ones the latest");
        x.ruling(0, 20);
        due("20", x.ruled(1, 20, 0), 0);
        x.ruling(1, 15);
        due("15", x.ruled(1, 15, 0), 1);
        due("20", x.ruled(1, 20, 0), 0);
        x.ruling(2, 20);
        due("20", x.ruled(1, 20, 0), 2);
        sentence("II: whose TEXT has one");
        due("mark at 15", x.ruled(6, 15, 0), 2);
        x.ruling(0, 25);
        due("levy at 25", x.ruled(1, 25, 0), 0);
        due("mark at 25", x.ruled(6, 25, 0), 2);
        due("mark at 14", x.ruled(6, 14, 0), NONE);
        due("stay at 25", x.ruled(3, 25, 0), NONE);
    }

    private static void told() {
        sentence("II: TOLD on the clock's MONTH; of RULINGS TOLD in k or ahead");
        LearningPaid x = new LearningPaid();
        Checks.text(x, "levy 1;");
        Checks.text(x, "levy 2;");
        x.months(5);
        x.ruling(0, 0);
        due("known 4", x.ruled(1, 0, 4), NONE);
        due("known 5", x.ruled(1, 0, 5), 0);
        due("known 599", x.ruled(1, 0, 599), 0);
        due("known 0", x.ruled(1, 599, 0), NONE);
        x.months(3);
        x.ruling(1, 0);
        due("known 7", x.ruled(1, 0, 7), 0);
        due("known 8", x.ruled(1, 0, 8), 1);
        sentence("II: (as KNOWN then): a RULING told later doesn't hold for what went by");
        x = withFirms(1);
        rule(x, "levy 3;", 0);
        x.months(2);
        rule(x, "levy 500;", 0);
        due("what went by", x.fund(), 6);
        x.months(1);
        due("from then on", x.fund(), 506);
        sentence("II: TOLD on the clock's MONTH, 600 too");
        x = withFirms(1);
        x.hand(20, 0, 1000, 0);
        course(x, 599, 599);
        x.join(0, 0);
        go(x, 600);
        rule(x, "mark 90; back 3;", 0);
        due("in no MONTH's knowledge", x.ruled(6, 599, 599), NONE);
        due("but now", x.marked(0, 89), 0);
    }

    private static void without() {
        sentence("II: Without: member so for all, levy wages / 100");
        LearningPaid x = withFirms(2);
        x.hand(20, 0, 1099, 0);
        x.months(1);
        due("cut", x.fund(), 10);
        due("nothing of a firm without hands", x.firmOf(1, 0, 2), 0);
        x = withFirms(2);
        rule(x, "levy 7;", 0);
        x.months(1);
        due("all are", x.fund(), 14);
        sentence("II: Without: back hours, cap paid");
        x = passed("levy 19;");
        due("hours are 20, paid is 19", x.claim(0), 19);
        x = passed("levy 20;");
        due("paid is 20", x.claim(0), 20);
        x = passed("levy 21;");
        due("paid is 21", x.claim(0), 20);
        sentence("II: Without: stay 0");
        x = passed("levy 21;");
        due("bound", x.bound(0), 0);
        due("goes", x.go(0, 1), 0);
        sentence("II: Without: proof 6");
        x = passed("levy 9000;");
        x.months(5);
        due("6 above LAST", x.claim(0), 20);
        x = passed("levy 9000;");
        x.months(6);
        due("7 above LAST", x.claim(0), -3);
        sentence("II: Without: mark 50");
        x = withFirms(1);
        x.hand(20, 0, 1000, 0);
        x.hand(20, 0, 1000, 0);
        course(x, 0, 0);
        x.join(0, 0);
        x.join(1, 0);
        x.months(1);
        due("49", x.marked(0, 49), 0);
        due("50", x.marked(1, 50), 1);
    }

    private static void sorts() {
        sentence("13: (sort 0 member, 1 levy, 2 back, 3 stay, 4 cap, 5 proof, 6 mark; NONE: none)");
        String[] sorts = {"member", "levy", "back", "stay", "cap", "proof", "mark"};
        for (int i = 0; i < 7; i++) {
            LearningPaid x = new LearningPaid();
            Checks.text(x, "");
            Checks.text(x, sorts[i] + (i == 0 ? " 1=1;" : " 1;"));
            x.ruling(0, 0);
            x.ruling(1, 0);
            x.ruling(0, 0);
            for (int sort = 0; sort < 7; sort++) {
                due("sort " + sort + " with " + sorts[i], x.ruled(sort, 0, 0), sort == i ? 1 : NONE);
            }
        }
    }
}
