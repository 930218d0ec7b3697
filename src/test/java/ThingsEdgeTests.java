import java.util.function.Consumer;

/** Each sentence of promises 1 to 7, and of the terms that they use, that names a boundary case. */
public final class ThingsEdgeTests extends Edges {
    public static void main(String[] args) {
        newObject();
        imageOfNew();
        firm();
        handNumbers();
        handTerms();
        tradeNumbers();
        tradeTerms();
        paper();
        courseNumbers();
        courseTerms();
        courseMonths();
        wage();
        Checks.finish("ThingsEdgeTests");
    }

    // ---- Promise 1: A new object ----

    private static void newObject() {
        sentence("1: No FIRMS");
        due("about 1", new LearningPaid().about(1), 0);
        due("firm 0 is none", new LearningPaid().firmOf(0, 0, 0), NONE);
        due("the first is 0", new LearningPaid().firm(), 0);
        sentence("1: No HANDS");
        due("about 2", new LearningPaid().about(2), 0);
        due("hand 0 is none", new LearningPaid().handOf(0, 0), NONE);
        due("the first is 0", new LearningPaid().hand(20, 0, 0, NONE), 0);
        sentence("1: No COURSES");
        due("about 3", new LearningPaid().about(3), 0);
        due("course 0 is none", new LearningPaid().about(10), NONE);
        due("the first is 0", course(new LearningPaid(), 0, 0), 0);
        sentence("1: No TEXTS");
        due("about 4", new LearningPaid().about(4), 0);
        due("text 0 is none", new LearningPaid().tried(0, 0), NONE);
        due("the first is 0", Checks.text(new LearningPaid(), "levy 1;"), 0);
        sentence("1: MONTH 0; Terms: the clock is the MONTH that goes by next, at first 0");
        due("about 0", new LearningPaid().about(0), 0);
        due("one goes by", new LearningPaid().months(1), 1);
        LearningPaid x = withFirms(1);
        rule(x, "levy 5+month;", 0);
        x.months(1);
        due("month 0 went by", x.fund(), 5);
        x.months(1);
        due("month 1 went by", x.fund(), 5 + 6);
        sentence("A new object: none JOINED, no RULINGS, no tape, no THE FUND, no SHEET, no TEXT read");
        for (int what = 5; what <= 8; what++) {
            due("about " + what, new LearningPaid().about(what), 0);
        }
        due("fund", new LearningPaid().fund(), 0);
        due("joined 0", new LearningPaid().joined(0, 0), NONE);
        for (int sort = 0; sort < 7; sort++) {
            due("rule of sort " + sort, new LearningPaid().ruled(sort, 0, 0), NONE);
        }
        due("check", new LearningPaid().check(0), NONE);
        due("fault", new LearningPaid().fault(0), NONE);
        for (int trainer = 0; trainer < 8; trainer++) {
            due("marked by trainer " + trainer, new LearningPaid().trainer(trainer, 0), 0);
        }
    }

    private static void imageOfNew() {
        sentence("1: THE IMAGE is this");
        Consumer<LearningPaid> back = x -> {
            Edges.town(x);
            x.image();
        };
        due("a town tells other than a new one", State.held(Edges::town).otherThan(State.held(x -> { })).isEmpty(), false);
        due("an image of it too", State.held(back).otherThan(State.held(x -> { })).isEmpty(), false);
        Consumer<LearningPaid> busy = x -> {
            x.firm();
            x.firm();
            x.hand(20, 1, 3000, 0);
            x.hand(30, 2, 4000, 1);
            for (int trade = 0; trade < 8; trade++) {
                x.trade(trade, 5, 3, 2);
                x.paper(trade, 7);
            }
            x.result(0, 9);
            x.result(1, 8);
            Checks.text(x, "levy 70; stay 30; cap 999;");
            x.ruling(0, 0);
            course(x, 0, 0);
            x.join(0, 0);
            x.join(1, 0);
            x.months(3);
            x.marked(0, 90);
            x.marked(1, 90);
            x.claim(0);
            x.go(0, NONE);
            x.go(1, 0);
            due("back to MONTH 0", x.back(), 0);
        };
        due("what is other than new, if anything: " + State.held(busy).otherThan(State.held(x -> { })),
            State.held(busy).otherThan(State.held(x -> { })).isEmpty(), true);
    }

    // ---- Promise 2: firm ----

    private static void firm() {
        sentence("2: A FIRM: its number; Terms: FIRMS 0 .. 19");
        LearningPaid x = new LearningPaid();
        for (int i = 0; i < 20; i++) {
            due("firm", x.firm(), i);
            due("firms", x.about(1), i + 1);
        }
        sentence("2: NONE if there are 20");
        due("firm 20", x.firm(), NONE);
        due("again", x.firm(), NONE);
        due("20 stay", x.about(1), 20);
        due("the last is one", x.firmOf(19, 0, 1), 0);
        due("firm 20 is none", x.firmOf(20, 0, 1), NONE);
    }

    // ---- Promise 3: hand ----

    private static void handNumbers() {
        sentence("3: A HAND: its number, NONE if there are 60; Terms: HANDS 0 .. 59");
        LearningPaid x = new LearningPaid();
        for (int i = 0; i < 60; i++) {
            due("hand", x.hand(20, 0, 10, NONE), i);
            due("a refused one has no number", x.hand(13, 0, 10, NONE), NONE);
        }
        due("hand 60", x.hand(20, 0, 10, NONE), NONE);
        due("60 stay", x.about(2), 60);
        due("the last is one", x.handOf(59, 0), 20);
        due("hand 60 is none", x.handOf(60, 0), NONE);
    }

    private static void handTerms() {
        LearningPaid x = withFirms(2);
        sentence("3: NONE for others; Terms: AGE (14 .. 80)");
        due("13", x.hand(13, 0, 10, 0), NONE);
        due("14", x.handOf(x.hand(14, 0, 10, 0), 0), 14);
        due("80", x.handOf(x.hand(80, 0, 10, 0), 0), 80);
        due("81", x.hand(81, 0, 10, 0), NONE);
        due("least", x.hand(LEAST, 0, 10, 0), NONE);
        due("most", x.hand(MOST, 0, 10, 0), NONE);
        sentence("3: NONE for others; Terms: TRADES 0 .. 7");
        due("-1", x.hand(20, -1, 10, 0), NONE);
        due("0", x.handOf(x.hand(20, 0, 10, 0), 1), 0);
        due("7", x.handOf(x.hand(20, 7, 10, 0), 1), 7);
        due("8", x.hand(20, 8, 10, 0), NONE);
        due("least", x.hand(20, LEAST, 10, 0), NONE);
        due("most", x.hand(20, MOST, 10, 0), NONE);
        sentence("3: NONE for others; Terms: WAGE (0 .. 5000)");
        due("-1", x.hand(20, 0, -1, 0), NONE);
        due("0", x.handOf(x.hand(20, 0, 0, 0), 2), 0);
        due("5000", x.handOf(x.hand(20, 0, 5000, 0), 2), 5000);
        due("5001", x.hand(20, 0, 5001, 0), NONE);
        due("least", x.hand(20, 0, LEAST, 0), NONE);
        due("most", x.hand(20, 0, MOST, 0), NONE);
        sentence("3: (firm NONE: none); NONE for others");
        due("-2", x.hand(20, 0, 10, -2), NONE);
        due("NONE", x.handOf(x.hand(20, 0, 10, NONE), 3), NONE);
        due("0", x.handOf(x.hand(20, 0, 10, 0), 3), 0);
        due("1, the last", x.handOf(x.hand(20, 0, 10, 1), 3), 1);
        due("2, which isn't one yet", x.hand(20, 0, 10, 2), NONE);
        due("20", x.hand(20, 0, 10, 20), NONE);
        due("least", x.hand(20, 0, 10, LEAST), NONE);
        due("most", x.hand(20, 0, 10, MOST), NONE);
        x.firm();
        due("2, which is one now", x.handOf(x.hand(20, 0, 10, 2), 3), 2);
        due("0 without any", new LearningPaid().hand(20, 0, 10, 0), NONE);
        due("how many were taken", x.about(2), 10);
    }

    // ---- Promise 4: trade ----

    private static void tradeNumbers() {
        sentence("4: False for others; Terms: TRADES 0 .. 7");
        for (int trade = 0; trade < 8; trade++) {
            LearningPaid x = new LearningPaid();
            due("trade " + trade, x.trade(trade, 3, 1, 1), true);
            for (int other = 0; other < 8; other++) {
                due("of " + other + " with " + trade, x.places(2000, other), other == trade ? 3 : 0);
            }
        }
        for (int trade : new int[] {-1, 8, LEAST, MOST}) {
            LearningPaid x = new LearningPaid();
            due("trade " + trade, x.trade(trade, 3, 1, 1), false);
            due("no place", x.places(2000, NONE), 0);
        }
        sentence("Terms: a LACK (at first 0)");
        for (int trade = 0; trade < 8; trade++) {
            due("of " + trade, new LearningPaid().places(2000, trade), 0);
            due("its lack", lackName(trade), 0);
        }
        sentence("4: LACK, COST, WORTH of a TRADE, as told last");
        LearningPaid x = new LearningPaid();
        x.trade(3, 5, 7, 9);
        x.trade(3, 4, 6, 8);
        due("lack", x.places(2000, 3), 4);
        due("cost", x.places(2000, -2), 4 * 6);
        due("worth", x.places(2000, NONE), 4 * 8);
        x.trade(3, 0, 6, 8);
        due("lack 0 again", x.places(2000, 3), 0);
    }

    /** What comes back by lack alone for a COURSE of this TRADE, of which nothing was told. */
    private static long lackName(int trade) {
        LearningPaid x = withFirms(1);
        rule(x, "levy 900; back lack; cap 999;", 0);
        x.hand(20, 0, 10, 0);
        x.course(0, trade, 20, 5, 100, 0, 0, 0, 0);
        x.join(0, 0);
        x.months(1);
        x.marked(0, 90);
        return x.claim(0);
    }

    private static void tradeTerms() {
        sentence("4: False for others; Terms: LACK (0 .. 50)");
        tried(LEAST, 9, 9, false);
        tried(-1, 9, 9, false);
        tried(0, 9, 9, true);
        tried(50, 9, 9, true);
        tried(51, 9, 9, false);
        tried(MOST, 9, 9, false);
        sentence("4: False for others; PLACES: COST (1 .. 200)");
        tried(9, LEAST, 9, false);
        tried(9, -1, 9, false);
        tried(9, 0, 9, false);
        tried(9, 1, 9, true);
        tried(9, 200, 9, true);
        tried(9, 201, 9, false);
        tried(9, MOST, 9, false);
        sentence("4: False for others; PLACES: WORTH (0 .. 100)");
        tried(9, 9, LEAST, false);
        tried(9, 9, -1, false);
        tried(9, 9, 0, true);
        tried(9, 9, 100, true);
        tried(9, 9, 101, false);
        tried(9, 9, MOST, false);
    }

    /** Tells a TRADE this; "False, changing nothing": LACK 3, COST 4, WORTH 5 stay. */
    private static void tried(int lack, int cost, int worth, boolean taken) {
        LearningPaid x = new LearningPaid();
        x.trade(6, 3, 4, 5);
        String call = "trade(6, " + lack + ", " + cost + ", " + worth + ")";
        due(call, x.trade(6, lack, cost, worth), taken);
        long all = taken ? Math.min(lack, 2000 / cost) : 3;
        long chosen = taken && worth == 0 ? 0 : all;
        due(call + ": of it", x.places(2000, 6), chosen);
        due(call + ": cost", x.places(2000, -2), chosen * (taken ? cost : 4));
        due(call + ": worth", x.places(2000, NONE), chosen * (taken ? worth : 5));
        due(call + ": lack * worth", x.proves(0, 0, 1), taken ? (long) lack * worth : 15);
    }

    // ---- Promise 5: paper ----

    private static LearningPaid withPaper(int paper) {
        LearningPaid x = withFirms(1);
        x.hand(20, 0, 10, 0);
        x.course(0, 0, 20, 5, 100, 0, 0, paper, 0);
        x.join(0, 0);
        x.months(1);
        x.marked(0, 90);
        return x;
    }

    private static void paper() {
        sentence("5: False for others; Terms: PAPERS 0 .. 7");
        for (int paper = 0; paper < 8; paper++) {
            LearningPaid x = withPaper(paper);
            due("paper " + paper, x.paper(paper, 5), true);
            due("it lapses", x.has(0, paper, 6), 0);
            for (int other = 0; other < 8; other++) {
                x = withPaper(paper);
                x.paper(other, 5);
                due("life of " + other + " for " + paper, x.has(0, paper, 6), other == paper ? 0 : 1);
            }
        }
        for (int paper : new int[] {-1, 8, LEAST, MOST}) {
            due("paper " + paper, new LearningPaid().paper(paper, 5), false);
        }
        sentence("5: False for others; Terms: LIFE (0 .. 120)");
        for (int life : new int[] {LEAST, -1, 121, MOST}) {
            LearningPaid x = withPaper(4);
            x.paper(4, 7);
            due("life " + life, x.paper(4, life), false);
            due("7 stays", x.has(0, 4, 7), 1);
            due("7 stays", x.has(0, 4, 8), 0);
        }
        for (int life : new int[] {1, 2, 119, 120}) {
            LearningPaid x = withPaper(4);
            due("life " + life, x.paper(4, life), true);
            due("up to " + life, x.has(0, 4, life), 1);
            due("not behind " + life, x.has(0, 4, life + 1), 0);
        }
        sentence("Terms: 0: for ever; at first 0");
        LearningPaid x = withPaper(4);
        due("at first", x.has(0, 4, 599), 1);
        x.paper(4, 1);
        due("not by 1", x.has(0, 4, 599), 0);
        due("life 0", x.paper(4, 0), true);
        due("for ever", x.has(0, 4, 599), 1);
    }

    // ---- Promise 6: course ----

    private static void courseNumbers() {
        sentence("6: A COURSE: its number, NONE if there are 24; Terms: COURSES 0 .. 23");
        LearningPaid x = new LearningPaid();
        for (int i = 0; i < 24; i++) {
            due("course", x.course(0, 0, 1, 1 + i % 20, 1, i, i, 0, 0), i);
            due("a refused one has no number", x.course(0, 0, 1, 1, 1, 5, 4, 0, 0), NONE);
        }
        due("course 24", x.course(0, 0, 1, 1, 1, 1, 1, 0, 0), NONE);
        due("24 stay", x.about(3), 24);
        due("seats of the last", x.about(33), 4);
        due("course 24 is none", x.about(34), NONE);
    }

    private static int made(int place, int value) {
        int[] v = {1, 2, 3, 4, 5, 6, 7, 1, 16};
        v[place] = value;
        LearningPaid x = new LearningPaid();
        int made = x.course(v[0], v[1], v[2], v[3], v[4], v[5], v[6], v[7], v[8]);
        due("how many then", x.about(3), made == NONE ? 0 : 1);
        return made;
    }

    private static void taken(String words, int place, int least, int most) {
        sentence("6: NONE for others; Terms: " + words);
        due("the last below", made(place, least - 1), NONE);
        due("the first", made(place, least), 0);
        due("the last", made(place, most), 0);
        due("the first above", made(place, most + 1), NONE);
        due("least", made(place, LEAST), NONE);
        due("most", made(place, MOST), NONE);
    }

    private static void courseTerms() {
        taken("a TRAINER (0 .. 7)", 0, 0, 7);
        taken("a TRADE", 1, 0, 7);
        taken("HOURS (1 .. 200)", 2, 1, 200);
        taken("SEATS (1 .. 20)", 3, 1, 20);
        taken("PRICE (0 .. 5000)", 4, 0, 5000);
        taken("a PAPER it gives", 7, 0, 7);
        taken("wants 0 .. 255", 8, 0, 255);
        sentence("6: A COURSE: what it was told to be");
        for (int seats = 1; seats <= 20; seats++) {
            LearningPaid x = new LearningPaid();
            x.course(0, 0, 1, seats, 1, 0, 0, 0, 0);
            due("seats", x.about(10), seats);
        }
        LearningPaid x = withFirms(1);
        x.hand(20, 0, 160, 0);
        for (int trainer = 0; trainer < 8; trainer++) {
            x.course(trainer, 0, 10 + trainer, 1, 1, trainer, trainer, 7 - trainer, 0);
            due("join", x.join(0, trainer), trainer);
            due("trainer", x.joined(trainer, 8), trainer);
            due("hours", x.joined(trainer, 7), 10 + trainer);
        }
        go(x, 8);
        for (int trainer = 0; trainer < 8; trainer++) {
            due("not yet", x.has(0, 7 - trainer, 599), 0);
            x.marked(trainer, 90);
            due("gives", x.has(0, 7 - trainer, 599), 1);
        }
        for (int paper = 0; paper < 8; paper++) {
            LearningPaid y = withPaper(paper);
            for (int want = 0; want < 8; want++) {
                y.course(0, 0, 1, 20, 1, 10 + want, 10 + want, 0, 1 << want);
                due("has " + paper + ", wants " + want, y.join(0, 1 + want) != NONE, want == paper);
            }
            y.course(0, 0, 1, 20, 1, 30, 30, 0, 255);
            due("has " + paper + ", wants all", y.join(0, 9), NONE);
            y.course(0, 0, 1, 20, 1, 40, 40, 0, 0);
            due("has " + paper + ", wants none", y.join(0, 10) != NONE, true);
        }
    }

    private static int of(int first, int last) {
        return new LearningPaid().course(0, 0, 1, 1, 1, first, last, 0, 0);
    }

    private static void courseMonths() {
        sentence("6: NONE for others; Terms: FIRST and LAST MONTH (0 .. 599)");
        due("-1, 0", of(-1, 0), NONE);
        due("-1, -1", of(-1, -1), NONE);
        due("0, 0", of(0, 0), 0);
        due("0, 599", of(0, 599), 0);
        due("599, 599", of(599, 599), 0);
        due("599, 600", of(599, 600), NONE);
        due("600, 600", of(600, 600), NONE);
        due("least", of(LEAST, 5), NONE);
        due("most", of(5, MOST), NONE);
        due("most, most", of(MOST, MOST), NONE);
        sentence("6: NONE for last below first");
        due("5, 5", of(5, 5), 0);
        due("5, 4", of(5, 4), NONE);
        due("599, 0", of(599, 0), NONE);
        due("1, 0", of(1, 0), NONE);
        sentence("6: A COURSE, of any MONTHS, whatever the clock is");
        LearningPaid x = new LearningPaid();
        x.months(60);
        due("gone by", course(x, 0, 3), 0);
        due("begun", course(x, 59, 61), 1);
    }

    // ---- Promise 7: wage ----

    private static void wage() {
        sentence("7: False for others; Terms: WAGE (0 .. 5000)");
        LearningPaid x = withFirms(1);
        x.hand(20, 0, 10, 0);
        x.hand(20, 0, 11, NONE);
        for (int wage : new int[] {LEAST, -1, 5001, MOST}) {
            due("wage " + wage, x.wage(0, wage), false);
            due("10 stays", x.handOf(0, 2), 10);
        }
        for (int wage : new int[] {0, 5000}) {
            due("wage " + wage, x.wage(0, wage), true);
            due("it is so", x.handOf(0, 2), wage);
            due("of its firm too", x.firmOf(0, 0, 0), wage);
            due("not of the other", x.handOf(1, 2), 11);
        }
        sentence("7: WAGE of a HAND; false for others");
        due("hand -1", x.wage(-1, 5), false);
        due("hand 1, the last, without a firm", x.wage(1, 5), true);
        due("it is so", x.handOf(1, 2), 5);
        due("hand 2", x.wage(2, 5), false);
        due("least", x.wage(LEAST, 5), false);
        due("most", x.wage(MOST, 5), false);
        due("without hands", new LearningPaid().wage(0, 5), false);
        sentence("7: from now on");
        x = withFirms(1);
        x.hand(20, 0, 1600, 0);
        course(x, 0, 0);
        course(x, 2, 2);
        x.join(0, 0);
        x.months(1);
        due("levied by 1600", x.fund(), 16);
        x.wage(0, 3200);
        due("not of what went by", x.fund(), 16);
        due("nor what was lost", x.joined(0, 7), 1600 * 20 / 160);
        x.months(1);
        due("levied by 3200", x.fund(), 16 + 32);
        x.join(0, 1);
        due("lost by 3200", x.joined(1, 7), 3200 * 20 / 160);
    }
}
