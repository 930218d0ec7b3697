/** Each sentence of promises 28 to 34, and of part IV that they use, that names a boundary case. */
public final class ChoicesEdgeTests extends Edges {
    private static final int NO_TRIAL = -1000000;

    public static void main(String[] args) {
        wayNumbers();
        wayFrom();
        wayBehind();
        wayWants();
        wayLeast();
        wayHeld();
        wayAside();
        wayWide();
        placesNumbers();
        placesMost();
        placesOfLikeOnes();
        placesFull();
        proves();
        provesMost();
        result();
        trialNumbers();
        trialSets();
        effect();
        like();
        beyondChance();
        drawnNumbers();
        drawn();
        drawnFrom();
        triedNumbers();
        triedLevies();
        triedPaid();
        triedBack();
        Checks.finish("ChoicesEdgeTests");
    }

    // ---- Promise 28: way ----

    private static LearningPaid withHand() {
        LearningPaid x = withFirms(1);
        x.hand(20, 0, 100, 0);
        return x;
    }

    private static int course(LearningPaid x, int first, int last, int gives, int wants) {
        return x.course(0, 0, 1, 5, 1, first, last, gives, wants);
    }

    private static void way(LearningPaid x, int paper, int last, int courses) {
        due("LAST to " + paper, x.way(0, paper, 0), last);
        due("COURSES to " + paper, x.way(0, paper, 1), courses);
    }

    private static void wayNumbers() {
        sentence("28: NONE: .. for others");
        LearningPaid x = withHand();
        course(x, 1, 2, 0, 0);
        course(x, 1, 3, 7, 0);
        for (int what = 0; what < 2; what++) {
            due("paper 0", x.way(0, 0, what), what == 0 ? 2 : 1);
            due("paper 7", x.way(0, 7, what), what == 0 ? 3 : 1);
            for (int wrong : new int[] {-1, 8, LEAST, MOST, 32}) {
                due("paper " + wrong, x.way(0, wrong, what), NONE);
            }
            for (int wrong : new int[] {-1, 1, 60, LEAST, MOST}) {
                due("hand " + wrong, x.way(wrong, 0, what), NONE);
            }
        }
        for (int wrong : new int[] {-1, 2, LEAST, MOST}) {
            due("what " + wrong, x.way(0, 0, wrong), NONE);
        }
        sentence("28: NONE: there is none");
        way(x, 3, NONE, NONE);
        way(withHand(), 0, NONE, NONE);
    }

    private static void wayFrom() {
        sentence("IV: none ahead of the clock's MONTH");
        LearningPaid x = withHand();
        course(x, 5, 6, 0, 0);
        x.months(4);
        way(x, 0, 6, 1);
        x.months(1);
        way(x, 0, 6, 1);
        x.months(1);
        way(x, 0, NONE, NONE);
        x = withHand();
        course(x, 0, 0, 0, 0);
        way(x, 0, 0, 1);
        x.months(1);
        way(x, 0, NONE, NONE);
        x = withHand();
        course(x, 599, 599, 0, 0);
        way(x, 0, 599, 1);
        go(x, 599);
        way(x, 0, 599, 1);
        go(x, 600);
        way(x, 0, NONE, NONE);
        sentence("IV: none ahead of the clock's MONTH, on the way too");
        x = withHand();
        course(x, 5, 6, 1, 0);
        course(x, 9, 9, 0, 2);
        x.months(5);
        way(x, 0, 9, 2);
        x.months(1);
        way(x, 0, NONE, NONE);
    }

    private static void wayBehind() {
        sentence("IV: COURSES one behind the other (FIRST of each above LAST of the one ahead)");
        for (int first = 3; first <= 8; first++) {
            LearningPaid x = withHand();
            course(x, 4, 6, 1, 0);
            course(x, first, 9, 0, 2);
            way(x, 0, first > 6 ? 9 : NONE, first > 6 ? 2 : NONE);
        }
        sentence("IV: .. of three");
        for (int first = 7; first <= 10; first++) {
            LearningPaid x = withHand();
            course(x, 1, 2, 1, 0);
            course(x, 3, 8, 2, 1 << 1);
            course(x, first, 11, 0, 1 << 2);
            way(x, 0, first > 8 ? 11 : NONE, first > 8 ? 3 : NONE);
        }
        sentence("IV: .. whichever number they have");
        LearningPaid x = withHand();
        course(x, 9, 9, 0, 1 << 7);
        course(x, 5, 5, 7, 1 << 3);
        course(x, 1, 1, 3, 0);
        way(x, 0, 9, 3);
        way(x, 7, 5, 2);
        way(x, 3, 1, 1);
    }

    private static void wayWants() {
        sentence("IV: each with all PAPERS that it wants");
        LearningPaid x = withHand();
        course(x, 0, 0, 1, 0);
        course(x, 10, 10, 0, 1 << 1 | 1 << 2);
        way(x, 0, NONE, NONE);
        course(x, 1, 1, 2, 0);
        way(x, 0, 10, 3);
        sentence("IV: .. of the one on the way too");
        x = withHand();
        course(x, 2, 2, 1, 1 << 3);
        course(x, 10, 10, 0, 1 << 1);
        way(x, 0, NONE, NONE);
        course(x, 1, 1, 3, 0);
        way(x, 0, 10, 3);
        sentence("IV: a COURSE that wants what it gives itself");
        x = withHand();
        course(x, 2, 2, 1, 1 << 1);
        way(x, 1, NONE, NONE);
        course(x, 3, 3, 2, 1 << 4);
        course(x, 1, 1, 4, 1 << 2);
        way(x, 2, NONE, NONE);
        sentence("IV: all eight PAPERS on the way");
        x = withHand();
        for (int i = 0; i < 7; i++) {
            course(x, 2 * i, 2 * i + 1, i + 1, (1 << i + 1) - 2);
        }
        course(x, 20, 21, 0, 254);
        way(x, 0, 21, 8);
        sentence("IV: (these don't lapse)");
        x = withHand();
        x.paper(1, 1);
        course(x, 0, 0, 1, 0);
        course(x, 300, 300, 0, 1 << 1);
        way(x, 0, 300, 2);
    }

    private static void wayLeast() {
        sentence("IV: the least LAST of the one that gives it");
        LearningPaid x = withHand();
        course(x, 5, 9, 0, 0);
        way(x, 0, 9, 1);
        course(x, 6, 8, 0, 0);
        way(x, 0, 8, 1);
        course(x, 2, 8, 0, 0);
        way(x, 0, 8, 1);
        sentence("IV: the least LAST .., then the fewest COURSES");
        course(x, 0, 0, 1, 0);
        course(x, 7, 7, 0, 1 << 1);
        way(x, 0, 7, 2);
        course(x, 6, 7, 0, 0);
        way(x, 0, 7, 1);
        x = withHand();
        course(x, 0, 0, 1, 0);
        course(x, 1, 1, 2, 0);
        course(x, 2, 2, 3, 0);
        course(x, 9, 9, 0, 1 << 1 | 1 << 2 | 1 << 3);
        way(x, 0, 9, 4);
        course(x, 8, 9, 0, 1 << 1 | 1 << 2);
        way(x, 0, 9, 3);
        course(x, 7, 9, 0, 1 << 3);
        way(x, 0, 9, 2);
        course(x, 3, 10, 0, 0);
        way(x, 0, 9, 2);
        sentence("IV: .. LAST of the one that gives it, whatever the others are");
        x = withHand();
        course(x, 0, 5, 1, 0);
        course(x, 1, 2, 1, 0);
        course(x, 3, 4, 0, 1 << 1);
        course(x, 6, 7, 0, 1 << 1);
        way(x, 0, 4, 2);
        sentence("IV: the fewest COURSES: one that gives a PAPER anew counts for nothing");
        x = withHand();
        course(x, 0, 0, 1, 0);
        course(x, 1, 1, 1, 0);
        course(x, 2, 2, 1, 0);
        course(x, 5, 5, 0, 1 << 1);
        way(x, 0, 5, 2);
    }

    private static void wayHeld() {
        sentence("IV: None is wanted, if it HAS it in the clock's MONTH; 28: (0 COURSES: it HAS it; the clock then.)");
        LearningPaid x = withHand();
        course(x, 0, 0, 1, 0);
        course(x, 8, 8, 1, 0);
        x.join(0, 0);
        way(x, 1, 0, 1);
        x.months(1);
        way(x, 1, 8, 1);
        x.marked(0, 90);
        way(x, 1, 1, 0);
        x.months(4);
        way(x, 1, 5, 0);
        x.paper(1, 5);
        way(x, 1, 5, 0);
        x.paper(1, 4);
        way(x, 1, 8, 1);
        x.paper(1, 0);
        go(x, 600);
        way(x, 1, 600, 0);
        x.paper(1, 120);
        way(x, 1, NONE, NONE);
        sentence("IV: by those it HAS in FIRST");
        for (int life = 1; life <= 12; life++) {
            x = withHand();
            course(x, 0, 0, 1, 0);
            course(x, 9, 11, 2, 1 << 1);
            x.join(0, 0);
            x.months(1);
            x.marked(0, 90);
            x.paper(1, life);
            way(x, 2, life >= 9 ? 11 : NONE, life >= 9 ? 1 : NONE);
        }
        sentence("IV: by those it HAS in FIRST, or that come on the way, together");
        x = withHand();
        course(x, 0, 0, 1, 0);
        course(x, 4, 4, 2, 1 << 1);
        course(x, 9, 9, 3, 1 << 1 | 1 << 2);
        course(x, 6, 6, 1, 0);
        x.join(0, 0);
        x.months(1);
        x.marked(0, 90);
        way(x, 3, 9, 2);
        x.paper(1, 9);
        way(x, 3, 9, 2);
        x.paper(1, 8);
        way(x, 3, 9, 3);
        x.paper(1, 3);
        way(x, 3, NONE, NONE);
        sentence("IV: what it HAS lapses, what comes on the way doesn't, of the same PAPER");
        x = withHand();
        course(x, 0, 0, 1, 0);
        course(x, 2, 2, 1, 0);
        course(x, 50, 50, 3, 1 << 1);
        x.join(0, 0);
        x.months(1);
        x.marked(0, 90);
        x.paper(1, 3);
        way(x, 1, 1, 0);
        way(x, 3, 50, 2);
    }

    private static void wayAside() {
        sentence("IV: SEATS, and what it JOINED, aside");
        LearningPaid x = withFirms(1);
        x.hand(20, 0, 100, 0);
        x.hand(20, 0, 100, 0);
        x.course(0, 0, 1, 1, 1, 3, 4, 1, 0);
        x.course(0, 0, 1, 1, 1, 3, 9, 2, 0);
        x.join(1, 0);
        x.join(0, 1);
        due("no SEATS", x.about(10), 0);
        way(x, 1, 4, 1);
        way(x, 2, 9, 1);
        sentence("28: a HAND without a FIRM too");
        x.go(0, NONE);
        way(x, 1, 4, 1);
        sentence("28: of this HAND");
        x = withFirms(1);
        x.hand(20, 0, 100, 0);
        x.hand(20, 0, 100, 0);
        course(x, 0, 0, 1, 0);
        course(x, 5, 5, 2, 1 << 1);
        x.join(1, 0);
        x.months(1);
        x.marked(0, 90);
        way(x, 2, NONE, NONE);
        due("of the other", x.way(1, 2, 0), 5);
    }

    private static void wayWide() {
        sentence("28: WAY by any of 24 COURSES");
        LearningPaid x = withHand();
        for (int i = 0; i < 23; i++) {
            course(x, 30, 40 + i, i % 7, 0);
        }
        course(x, 20, 21, 7, 0);
        way(x, 7, 21, 1);
        way(x, 6, 46, 1);
        x = withHand();
        for (int i = 0; i < 16; i++) {
            course(x, 2 * i, 2 * i, i % 7, i % 7 == 0 ? 0 : 1 << i % 7 - 1);
        }
        for (int i = 0; i < 7; i++) {
            way(x, i, 2 * i, i + 1);
        }
        course(x, 500, 599, 7, 127);
        way(x, 7, 599, 8);
    }

    // ---- Promise 29: places ----

    private static void places(LearningPaid x, int coins, int worth, int cost, int... chosen) {
        due("WORTH for " + coins, x.places(coins, NONE), worth);
        due("COST for " + coins, x.places(coins, -2), cost);
        for (int trade = 0; trade < 8; trade++) {
            due("of TRADE " + trade + " for " + coins, x.places(coins, trade), trade < chosen.length ? chosen[trade] : 0);
        }
    }

    private static void placesNumbers() {
        sentence("29: PLACES for coins (0 .. 2000); -3 for others");
        LearningPaid x = new LearningPaid();
        x.trade(0, 50, 40, 1);
        due("-1", x.places(-1, NONE), -3);
        due("0", x.places(0, NONE), 0);
        due("39", x.places(39, NONE), 0);
        due("40", x.places(40, NONE), 1);
        due("1999", x.places(1999, NONE), 49);
        due("2000", x.places(2000, NONE), 50);
        due("2001", x.places(2001, NONE), -3);
        due("least", x.places(LEAST, NONE), -3);
        due("most", x.places(MOST, NONE), -3);
        sentence("29: of a TRADE; WORTH (what NONE); COST (-2). -3 for others");
        due("-3", x.places(2000, -3), -3);
        due("-2", x.places(2000, -2), 2000);
        due("-1", x.places(2000, -1), 50);
        due("0", x.places(2000, 0), 50);
        due("7", x.places(2000, 7), 0);
        due("8", x.places(2000, 8), -3);
        due("least", x.places(2000, LEAST), -3);
        due("most", x.places(2000, MOST), -3);
    }

    private static void placesMost() {
        sentence("IV: of each TRADE 0 to its LACK");
        LearningPaid x = new LearningPaid();
        x.trade(4, 3, 10, 5);
        places(x, 2000, 15, 30, 0, 0, 0, 0, 3);
        for (int lack : new int[] {0, 1, 2, 3, 7, 15, 16, 31, 32, 49, 50}) {
            x.trade(4, lack, 1, 5);
            places(x, 2000, 5 * lack, lack, 0, 0, 0, 0, lack);
        }
        sentence("IV: the most WORTH together for not more than the coins");
        x = new LearningPaid();
        x.trade(0, 2, 3, 5);
        x.trade(1, 1, 4, 7);
        places(x, 2, 0, 0);
        places(x, 3, 5, 3, 1);
        places(x, 4, 7, 4, 0, 1);
        places(x, 5, 7, 4, 0, 1);
        places(x, 6, 10, 6, 2);
        places(x, 7, 12, 7, 1, 1);
        places(x, 9, 12, 7, 1, 1);
        places(x, 10, 17, 10, 2, 1);
        places(x, 11, 17, 10, 2, 1);
        sentence("IV: .. not by WORTH for a coin, nor by WORTH alone");
        x = new LearningPaid();
        x.trade(0, 1, 6, 30);
        x.trade(1, 2, 5, 20);
        places(x, 10, 40, 10, 0, 2);
        places(x, 9, 30, 6, 1);
        places(x, 11, 50, 11, 1, 1);
        sentence("IV: WORTH of 0");
        x = new LearningPaid();
        x.trade(0, 5, 1, 0);
        places(x, 9, 0, 0);
        x.trade(1, 5, 2, 1);
        places(x, 9, 4, 8, 0, 4);
    }

    private static void placesOfLikeOnes() {
        sentence("IV: of like ones the least COST together");
        LearningPaid x = new LearningPaid();
        x.trade(0, 1, 10, 6);
        x.trade(1, 3, 3, 2);
        places(x, 10, 6, 9, 0, 3);
        x = new LearningPaid();
        x.trade(0, 3, 3, 2);
        x.trade(1, 1, 10, 6);
        places(x, 10, 6, 9, 3);
        x.trade(1, 1, 8, 6);
        places(x, 10, 6, 8, 0, 1);
        x = new LearningPaid();
        x.trade(0, 1, 200, 1);
        x.trade(7, 1, 199, 1);
        places(x, 200, 1, 199, 0, 0, 0, 0, 0, 0, 0, 1);
        sentence("IV: of like ones the fewest of TRADE 0");
        x = new LearningPaid();
        x.trade(0, 3, 2, 2);
        x.trade(1, 3, 2, 2);
        places(x, 2, 2, 2, 0, 1);
        places(x, 6, 6, 6, 0, 3);
        places(x, 8, 8, 8, 1, 3);
        sentence("IV: then of 1, and so on");
        for (int trade = 0; trade < 7; trade++) {
            x = new LearningPaid();
            for (int other = trade; other < 8; other++) {
                x.trade(other, 2, 5, 5);
            }
            int[] chosen = new int[8];
            chosen[7] = 2;
            chosen[6] = 1;
            if (trade < 7) {
                places(x, 15, 15, 15, chosen);
            }
        }
        x = new LearningPaid();
        x.trade(0, 1, 2, 2);
        x.trade(1, 2, 2, 2);
        x.trade(2, 1, 4, 4);
        places(x, 4, 4, 4, 0, 0, 1);
        places(x, 6, 6, 6, 0, 1, 1);
        x.trade(1, 1, 4, 4);
        x.trade(2, 2, 2, 2);
        places(x, 4, 4, 4, 0, 0, 2);
        places(x, 6, 6, 6, 0, 1, 1);
        sentence("IV: the least COST ahead of the fewest of TRADE 0");
        x = new LearningPaid();
        x.trade(0, 3, 1, 2);
        x.trade(1, 1, 4, 6);
        places(x, 4, 6, 3, 3);
    }

    private static void placesFull() {
        sentence("IV: LACK 50, COST 200, WORTH 100 of all");
        LearningPaid x = new LearningPaid();
        for (int trade = 0; trade < 8; trade++) {
            x.trade(trade, 50, 5, 100);
        }
        places(x, 2000, 40000, 2000, 50, 50, 50, 50, 50, 50, 50, 50);
        places(x, 1999, 39900, 1995, 49, 50, 50, 50, 50, 50, 50, 50);
        for (int trade = 0; trade < 8; trade++) {
            x.trade(trade, 50, 200, 100);
        }
        places(x, 2000, 1000, 2000, 0, 0, 0, 0, 0, 0, 0, 10);
        places(x, 1999, 900, 1800, 0, 0, 0, 0, 0, 0, 0, 9);
        for (int trade = 0; trade < 8; trade++) {
            x.trade(trade, 50, 1, 100);
        }
        places(x, 2000, 40000, 400, 50, 50, 50, 50, 50, 50, 50, 50);
        places(x, 399, 39900, 399, 49, 50, 50, 50, 50, 50, 50, 50);
    }

    // ---- Promise 30: proves ----

    private static void proves() {
        sentence("30: a PRICE a / b (1 .. 1000 each; a 0 too); NONE for others");
        LearningPaid x = new LearningPaid();
        due("a -1", x.proves(7, -1, 5), NONE);
        due("a 0", x.proves(7, 0, 5), 0);
        due("a 1", x.proves(7, 1, 1), 7);
        due("a 1000", x.proves(7, 1000, 1), 7000);
        due("a 1001", x.proves(7, 1001, 1), NONE);
        due("b -1", x.proves(7, 1, -1), NONE);
        due("b 0", x.proves(7, 1, 0), NONE);
        due("b 1", x.proves(9, 1, 1), 9);
        due("b 1000", x.proves(2000, 1, 1000), 2);
        due("b 1001", x.proves(7, 1, 1001), NONE);
        due("a 0, b 0", x.proves(7, 0, 0), NONE);
        for (int far : new int[] {LEAST, MOST}) {
            due("a " + far, x.proves(7, far, 5), NONE);
            due("b " + far, x.proves(7, 5, far), NONE);
            due("coins " + far, x.proves(far, 5, 5), NONE);
        }
        sentence("30: coins (0 .. 2000)");
        due("-1", x.proves(-1, 1, 1), NONE);
        due("0", x.proves(0, 1, 1), 0);
        due("2000", x.proves(2000, 1, 1), 2000);
        due("2001", x.proves(2001, 1, 1), NONE);
        sentence("IV: / b, cut");
        due("35 / 3", x.proves(7, 5, 3), 11);
        due("36 / 3", x.proves(36, 1, 3), 12);
        due("2 / 3", x.proves(2, 1, 3), 0);
        sentence("IV: what b * WORTH of each place is above a * COST, together over LACKS");
        x.trade(0, 2, 3, 5);
        due("15 - 15", x.proves(0, 5, 3), 0);
        due("20 - 15", x.proves(0, 5, 4), 2 * 5 / 4);
        due("10 - 15", x.proves(0, 5, 2), 0);
        due("5 - 0", x.proves(0, 0, 1), 10);
        x.trade(7, 3, 1, 1);
        due("20 - 15 and 4 - 5", x.proves(0, 5, 4), 2 * 5 / 4);
        due("30 - 15 and 6 - 5", x.proves(0, 5, 6), (2 * 15 + 3) / 6);
        due("with coins: cut once", x.proves(1, 5, 6), (5 + 2 * 15 + 3) / 6);
        x.trade(0, 0, 3, 5);
        due("LACK 0", x.proves(0, 5, 6), 3 / 6);
        x.trade(7, 50, 1, 0);
        due("WORTH 0", x.proves(9, 5, 6), 45 / 6);
    }

    private static void provesMost() {
        sentence("30: PROVES, as high as can be");
        LearningPaid x = new LearningPaid();
        for (int trade = 0; trade < 8; trade++) {
            x.trade(trade, 50, 1, 100);
        }
        due("0 / 1000", x.proves(2000, 0, 1000), 40000);
        due("1 / 1000", x.proves(2000, 1, 1000), (2000 + 400L * 99999) / 1000);
        due("1000 / 1", x.proves(2000, 1000, 1), 2000000);
        due("1000 / 1000", x.proves(2000, 1000, 1000), 2000 + 400 * 99);
        sentence("IV: no choice has more than what a PRICE PROVES");
        x = new LearningPaid();
        x.trade(0, 7, 3, 5);
        x.trade(1, 4, 4, 7);
        x.trade(2, 9, 7, 11);
        for (int coins = 0; coins <= 120; coins += 10) {
            int most = x.places(coins, NONE);
            for (int a = 0; a < 4; a++) {
                for (int b = 1; b < 4; b++) {
                    due(coins + " coins, " + a + " / " + b, x.proves(coins, a, b) >= most, true);
                }
            }
        }
    }

    // ---- Promises 31, 32: result, trial ----

    private static void result() {
        sentence("31: A RESULT of a FIRM: true. False for others");
        LearningPaid x = withFirms(2);
        due("-1", x.result(-1, 5), false);
        due("1, the last", x.result(1, 5), true);
        due("2", x.result(2, 5), false);
        due("20", x.result(20, 5), false);
        due("least", x.result(LEAST, 5), false);
        due("most", x.result(MOST, 5), false);
        due("it is so", x.trial(3, 2, 0), 5);
        sentence("31: False for others; IV: a RESULT (-1000 .. 1000)");
        for (int v : new int[] {LEAST, -1001, 1001, MOST}) {
            due("v " + v, x.result(1, v), false);
            due("5 stays", x.trial(3, 2, 0), 5);
        }
        due("-1000", x.result(1, -1000), true);
        due("it is so", x.trial(3, 2, 0), -1000);
        due("1000", x.result(1, 1000), true);
        due("it is so", x.trial(3, 2, 0), 1000);
        sentence("IV: a RESULT (at first 0)");
        x = withFirms(20);
        for (int firm = 1; firm < 20; firm++) {
            due("of " + firm, x.trial(1 | 1 << firm, 1, 0), 0);
        }
        x.result(0, 1000);
        for (int firm = 1; firm < 20; firm++) {
            due("of 0 less of " + firm, x.trial(1 | 1 << firm, 1, 0), 1000);
        }
    }

    private static void trialNumbers() {
        sentence("32: 0 EFFECT, 1 LIKE, 2 how many choices, 3 BEYOND CHANCE. -1000000 for others");
        LearningPaid x = withFirms(13);
        for (int what : new int[] {-1, 4, 5, LEAST, MOST}) {
            due("what " + what, x.trial(3, 1, what), NO_TRIAL);
        }
        for (int what = 0; what < 4; what++) {
            due("what " + what, x.trial(3, 1, what), what == 0 || what == 3 ? 0 : 2);
        }
        sentence("IV: FIRMS (2 to 12, a set)");
        due("none", x.trial(0, 0, 0), NO_TRIAL);
        due("none", x.trial(0, 1, 0), NO_TRIAL);
        for (int firm = 0; firm < 13; firm++) {
            due("one", x.trial(1 << firm, 1 << firm, 0), NO_TRIAL);
        }
        due("two", x.trial(5, 1, 2), 2);
        due("twelve", x.trial(0xfff, 1, 2), 12);
        due("another twelve", x.trial(0x1ffe, 2, 2), 12);
        due("thirteen", x.trial(0x1fff, 1, 2), NO_TRIAL);
        sentence("IV: FIRMS that are there");
        due("firm 13", x.trial(1 | 1 << 13, 1, 0), NO_TRIAL);
        due("firm 12", x.trial(1 | 1 << 12, 1, 0), 0);
        due("firm 31", x.trial(1 | LEAST, 1, 0), NO_TRIAL);
        due("firm 20", x.trial(1 | 1 << 20, 1, 0), NO_TRIAL);
        due("all bits", x.trial(-1, 1, 0), NO_TRIAL);
        x = withFirms(20);
        due("firm 19", x.trial(1 | 1 << 19, 1, 0), 0);
        due("firm 20", x.trial(1 | 1 << 20, 1, 0), NO_TRIAL);
        due("no FIRMS", new LearningPaid().trial(3, 1, 0), NO_TRIAL);
    }

    private static void trialSets() {
        sentence("IV: some of them TREATED (one at least, one at least not)");
        LearningPaid x = withFirms(4);
        due("none of three", x.trial(7, 0, 2), NO_TRIAL);
        due("one of three", x.trial(7, 4, 2), 3);
        due("two of three", x.trial(7, 6, 2), 3);
        due("three of three", x.trial(7, 7, 2), NO_TRIAL);
        due("none of two", x.trial(9, 0, 2), NO_TRIAL);
        due("one of two", x.trial(9, 8, 2), 2);
        due("two of two", x.trial(9, 9, 2), NO_TRIAL);
        sentence("32: TREATED (bits of these)");
        due("another", x.trial(7, 8, 2), NO_TRIAL);
        due("another too", x.trial(7, 9, 2), NO_TRIAL);
        due("one that isn't there", x.trial(7, 1 | 1 << 20, 2), NO_TRIAL);
        due("bit 31", x.trial(7, 1 | LEAST, 2), NO_TRIAL);
        due("all bits", x.trial(7, -1, 2), NO_TRIAL);
    }

    private static LearningPaid withResults(int... results) {
        LearningPaid x = withFirms(results.length);
        for (int firm = 0; firm < results.length; firm++) {
            due("result", x.result(firm, results[firm]), true);
        }
        return x;
    }

    private static void effect() {
        sentence("IV: EFFECT: RESULTS of the TREATED together times how many aren't, less RESULTS of the others times how many are");
        LearningPaid x = withResults(10, 8, 1, 3, -50);
        due("two of four", x.trial(15, 3, 0), 18 * 2 - 4 * 2);
        due("the other two", x.trial(15, 12, 0), 4 * 2 - 18 * 2);
        due("one of four", x.trial(15, 1, 0), 10 * 3 - 12);
        due("three of four", x.trial(15, 7, 0), 19 - 3 * 3);
        due("one of five", x.trial(31, 16, 0), -50 * 4 - 22);
        due("of bits apart", x.trial(16 | 4 | 1, 17, 0), -40 - 2);
        sentence("IV: EFFECT, as far as it goes");
        int[] far = new int[12];
        for (int i = 0; i < 12; i++) {
            far[i] = i < 6 ? 1000 : -1000;
        }
        x = withResults(far);
        due("highest", x.trial(0xfff, 0x3f, 0), 72000);
        due("lowest", x.trial(0xfff, 0xfc0, 0), -72000);
    }

    private static void like() {
        sentence("IV: LIKE: how many choices have an EFFECT as far from 0 or farther");
        LearningPaid x = withResults(10, 8, 1, 3);
        due("the farthest, on both sides", x.trial(15, 3, 1), 2);
        due("the second", x.trial(15, 9, 1), 4);
        due("the least", x.trial(15, 5, 1), 6);
        due("below 0", x.trial(15, 12, 1), 2);
        due("of all alike", withResults(5, 5, 5).trial(7, 2, 1), 3);
        due("one of three: 8, -4, -4", withResults(4, 0, 0).trial(7, 1, 1), 1);
        due("one of three: 8, -4, -4", withResults(4, 0, 0).trial(7, 2, 1), 3);
        due("one of three: 6, 0, -6", withResults(4, 2, 0).trial(7, 1, 1), 2);
        due("one of three: 6, 0, -6", withResults(4, 2, 0).trial(7, 2, 1), 3);
        due("one of three: 9, 0, -9; of 5, 2, -1", withResults(5, 2, -1).trial(7, 4, 1), 2);
        sentence("IV: choices of as many TREATED");
        int[] choices = {12, 66, 220, 495, 792, 924, 792, 495, 220, 66, 12};
        x = withFirms(12);
        for (int many = 1; many < 12; many++) {
            due(many + " of 12", x.trial(0xfff, (1 << many) - 1, 2), choices[many - 1]);
            due(many + " of 12, all like 0", x.trial(0xfff, (1 << many) - 1, 1), choices[many - 1]);
        }
    }

    private static void beyondChance() {
        sentence("IV: BEYOND CHANCE: 20 times LIKE is not above how many choices there are");
        LearningPaid x = withResults(100, 10, 10, 10, 10, 0, 0, 0, 0, 0);
        due("LIKE", x.trial(0x3ff, 7, 1), 6);
        due("choices", x.trial(0x3ff, 7, 2), 120);
        due("6 of 120 is", x.trial(0x3ff, 7, 3), 1);
        x.result(5, 10);
        due("LIKE", x.trial(0x3ff, 7, 1), 10);
        due("10 of 120 isn't", x.trial(0x3ff, 7, 3), 0);
        x = withResults(9, 9, 9, 0, 0, 0);
        due("LIKE", x.trial(63, 7, 1), 2);
        due("2 of 20 isn't", x.trial(63, 7, 3), 0);
        x = withResults(9, 9, 9, 0, 0, 0, 0);
        due("LIKE", x.trial(127, 7, 1), 1);
        due("1 of 35 is", x.trial(127, 7, 3), 1);
        x = withResults(100, 100, 50, 40, 0, 0, 0);
        due("two of seven: LIKE", x.trial(127, 3, 1), 1);
        due("1 of 21 is", x.trial(127, 3, 3), 1);
        due("the second of seven: LIKE", x.trial(127, 5, 1), 6);
        due("6 of 21 isn't", x.trial(127, 5, 3), 0);
        x = withResults(9, 0, 0, 0, 0, 0, 0, 0, 0, 0, 0, 0);
        due("1 of 12 isn't", x.trial(0xfff, 1, 3), 0);
        due("LIKE", x.trial(0xfff, 1, 1), 1);
        x = withResults(-4, 2, -7, 2, -5, 2, -3, 5, 3, 5, 2, 9);
        due("LIKE", x.trial(0xfff, 0x3f, 1), 48);
        due("48 of 924 isn't", x.trial(0xfff, 0x3f, 3), 0);
    }

    // ---- Promise 33: drawn ----

    /** Hands 0 to 7 that JOINED in this order and PASSED; of them these are CLAIMED, in this order. */
    private static LearningPaid claimed(int... claimed) {
        LearningPaid x = withFirms(1);
        rule(x, "levy 9000; cap 9999;", 0);
        course(x, 0, 0);
        for (int i = 0; i < 8; i++) {
            x.hand(20, 0, 10, 0);
            x.join(i, 0);
        }
        x.months(1);
        for (int i = 0; i < 8; i++) {
            x.marked(i, 90);
        }
        for (int joined : claimed) {
            due("claim", x.claim(joined), 20);
        }
        return x;
    }

    private static void drawnNumbers() {
        sentence("33: NONE: others (.. n not 1 to all that are CLAIMED)");
        LearningPaid x = claimed(1, 4, 6);
        for (int n : new int[] {LEAST, -1, 0, 4, 8, MOST}) {
            due("n " + n, x.drawn(n, 7, 0), NONE);
        }
        due("n 1", x.drawn(1, 7, 0) != NONE, true);
        due("n 3", x.drawn(3, 7, 0) != NONE, true);
        due("none are", claimed().drawn(1, 7, 0), NONE);
        due("none are", claimed().drawn(0, 7, 0), NONE);
        due("one is", claimed(5).drawn(1, 7, 0), 5);
        due("one is", claimed(5).drawn(2, 7, 0), NONE);
        sentence("33: NONE: others (i not below n ..)");
        for (int n = 1; n <= 3; n++) {
            due("i " + (n - 1) + " of " + n, x.drawn(n, 7, n - 1) != NONE, true);
            due("i " + n + " of " + n, x.drawn(n, 7, n), NONE);
            due("i -1 of " + n, x.drawn(n, 7, -1), NONE);
            due("i least of " + n, x.drawn(n, 7, LEAST), NONE);
            due("i most of " + n, x.drawn(n, 7, MOST), NONE);
        }
    }

    private static void drawn() {
        sentence("IV: s becomes s * 1103515245 + 12345 (32 bits), place i changes with place i + (s >>> 16) % (m - i)");
        int[] all = {0, 2, 3, 5, 7};
        LearningPaid x = claimed(all);
        for (int seed : new int[] {0, 1, 2, -1, 77, 65536, 1 << 30, LEAST, MOST}) {
            for (int n = 1; n <= 5; n++) {
                int[] order = all.clone();
                long s = seed & 0xffffffffL;
                for (int i = 0; i < n; i++) {
                    s = (s * 1103515245L + 12345) % (1L << 32);
                    int place = i + (int) (s / 65536 % (5 - i));
                    int other = order[place];
                    order[place] = order[i];
                    order[i] = other;
                }
                for (int i = 0; i < n; i++) {
                    due(i + " of " + n + " by " + seed, x.drawn(n, seed, i), order[i]);
                }
            }
        }
        sentence("33: The i-th DRAWN of n by a seed, told by hand");
        // s is 1103527590 at first (16838 above 16 bits), then 2524885223 (38526), then 662824084 (10113).
        x = claimed(1, 4, 6);
        due("16838 % 3 is 2", x.drawn(3, 1, 0), 6);
        due("38526 % 2 is 0", x.drawn(3, 1, 1), 4);
        due("the last one", x.drawn(3, 1, 2), 1);
        due("of one alone", x.drawn(1, 1, 0), 6);
    }

    private static void drawnFrom() {
        sentence("IV: of those CLAIMED now, by the order in which they JOINED");
        LearningPaid x = claimed(1, 4, 6);
        LearningPaid y = claimed(6, 1, 4);
        for (int seed = 0; seed < 20; seed++) {
            for (int i = 0; i < 3; i++) {
                due("claimed in another order", y.drawn(3, seed, i), x.drawn(3, seed, i));
            }
        }
        y = claimed(6, 1, 3, 4);
        y.appeal(3);
        for (int seed = 0; seed < 20; seed++) {
            due("one is UNDONE", y.drawn(3, seed, 2), x.drawn(3, seed, 2));
        }
        due("it isn't one of them", y.drawn(4, 7, 0), NONE);
        sentence("IV: the first n: each of them once");
        for (int seed = 0; seed < 20; seed++) {
            int seen = 0;
            for (int i = 0; i < 3; i++) {
                seen |= 1 << x.drawn(3, seed, i);
            }
            due("all three", seen, 1 << 1 | 1 << 4 | 1 << 6);
        }
    }

    // ---- Promise 34: tried ----

    private static void triedNumbers() {
        sentence("34: NONE for others");
        LearningPaid x = withFirms(1);
        due("0 of none", x.tried(0, 0), NONE);
        Checks.text(x, "levy 1;");
        Checks.text(x, "levy 2;");
        x.months(1);
        for (int what = 0; what < 2; what++) {
            due("-1", x.tried(-1, what), NONE);
            due("1, the last", x.tried(1, what), what == 0 ? 2 : 0);
            due("2", x.tried(2, what), NONE);
            due("9", x.tried(9, what), NONE);
            due("10", x.tried(10, what), NONE);
            due("least", x.tried(LEAST, what), NONE);
            due("most", x.tried(MOST, what), NONE);
        }
        for (int what : new int[] {-1, 2, LEAST, MOST}) {
            due("what " + what, x.tried(0, what), NONE);
        }
    }

    private static void triedLevies() {
        sentence("IV: TRIED: levies of all MONTHS, for all that is over");
        LearningPaid x = withFirms(1);
        Checks.text(x, "levy 10;");
        due("none", x.tried(0, 0), 0);
        x.months(1);
        due("one", x.tried(0, 0), 10);
        x.months(22);
        due("23", x.tried(0, 0), 230);
        sentence("IV: TRIED: of the FIRMS that were there then");
        x.firm();
        due("not of a new one", x.tried(0, 0), 230);
        x.months(1);
        due("two of the last", x.tried(0, 0), 250);
        sentence("IV: TRIED: by the WAGES, heads .. of then");
        x = withFirms(2);
        x.hand(20, 0, 700, 0);
        x.hand(20, 0, 60, 0);
        x.months(1);
        x.go(0, 1);
        x.wage(1, 90);
        x.months(1);
        x.go(1, NONE);
        x.months(1);
        Checks.text(x, "levy wages;");
        Checks.text(x, "levy heads;");
        Checks.text(x, "levy month;");
        Checks.text(x, "levy 1; member wages>100;");
        Checks.text(x, "levy 1; member month=1 and heads=1;");
        due("wages", x.tried(0, 0), 760 + 0 + 90 + 700 + 0 + 700);
        due("heads", x.tried(1, 0), 2 + 0 + 1 + 1 + 0 + 1);
        due("month", x.tried(2, 0), 0 + 0 + 1 + 1 + 2 + 2);
        due("member by wages", x.tried(3, 0), 3);
        due("member by month and heads", x.tried(4, 0), 2);
        sentence("IV: TRIED: (a sort that the TEXT hasn't as without)");
        Checks.text(x, "");
        Checks.text(x, "member heads=1;");
        due("levy wages / 100", x.tried(5, 0), 7 + 0 + 0 + 7 + 0 + 7);
        due("levy wages / 100, of members", x.tried(6, 0), 0 + 0 + 0 + 7 + 0 + 7);
        sentence("IV: TRIED: a TEXT in place of all RULINGS");
        x.ruling(2, 0);
        rule(x, "levy 9999; member 1=1;", 0);
        due("by it alone", x.tried(5, 0), 21);
        due("by it alone", x.tried(6, 0), 14);
        sentence("IV: TRIED: levy (0 at least, 1000000 at most)");
        x = withFirms(20);
        Checks.text(x, "levy -5;");
        Checks.text(x, "levy 9999*9999*9999;");
        go(x, 600);
        due("below 0", x.tried(0, 0), 0);
        due("as high as can be", x.tried(1, 0), 12000000000L);
        due("nothing is levied by it", x.fund(), 0);
    }

    private static void triedPaid() {
        sentence("IV: TRIED: PAID, ahead of that MONTH in its YEAR, as it truly was");
        LearningPaid x = withFirms(1);
        rule(x, "levy 10;", 0);
        Checks.text(x, "levy paid;");
        Checks.text(x, "levy paid+1;");
        x.months(1);
        due("none ahead of month 0", x.tried(1, 0), 0);
        x.months(1);
        due("10 ahead of month 1", x.tried(1, 0), 10);
        due("not what it would have been itself", x.tried(2, 0), 1 + 11);
        x.months(10);
        due("all of year 0", x.tried(1, 0), 10 * 66);
        x.months(1);
        due("none ahead of month 12 in its YEAR", x.tried(1, 0), 10 * 66);
        x.months(1);
        due("10 ahead of month 13", x.tried(1, 0), 10 * 67);
        x = withFirms(1);
        rule(x, "levy 10;", 0);
        x.months(3);
        x.firm();
        x.months(2);
        Checks.text(x, "levy paid;");
        due("of a new one too", x.tried(1, 0), 10 * (1 + 2 + 3 + 4) + 10);
    }

    private static void triedBack() {
        sentence("IV: TRIED: what would have come BACK for all that are CLAIMED now");
        LearningPaid x = claimed(0, 1, 2);
        Checks.text(x, "back 7;");
        due("three", x.tried(1, 1), 21);
        x.appeal(1);
        due("two", x.tried(1, 1), 14);
        due("none", claimedAnd("back 7;", 1), 0);
        sentence("IV: TRIED: back (0 at least, 1000000 at most)");
        due("-1", claimedAnd("back -1;", 1, 2), 0);
        due("1000000", claimedAnd("back 1000*1000;", 1, 2), 1000000);
        due("1000001", claimedAnd("back 1000*1000+1;", 1, 2), 1000000);
        due("999999", claimedAnd("back 1000*1000-1;", 1, 2), 999999);
        sentence("IV: TRIED: each by itself, without cap and THE FUND");
        due("cap 0", claimedAnd("back 50; cap 0;", 1, 2, 3), 100);
        due("cap 60", claimedAnd("back 50; cap 60;", 1, 2, 3), 100);
        due("more than the fund", claimedAnd("back 1000*1000; levy 0;", 1, 2, 3), 2000000);
        sentence("IV: TRIED: (a sort that the TEXT hasn't as without): back hours");
        due("hours", claimedAnd("levy 1;", 1, 2, 3), 40);
        sentence("IV: TRIED: the FIRM's NAMES as they are now; hours, price, age, trade, lack");
        x = withFirms(2);
        rule(x, "levy 100+month; cap 9999;", 0);
        x.hand(41, 3, 700, 0);
        x.hand(42, 3, 60, 0);
        x.course(0, 5, 23, 5, 1234, 13, 14, 0, 0);
        x.join(0, 0);
        go(x, 15);
        x.marked(0, 90);
        x.claim(0);
        String[] names = {"wages", "heads", "paid", "month", "hours", "price", "age", "trade", "lack"};
        for (String name : names) {
            Checks.text(x, "back " + name + ";");
        }
        long[] want = {760, 2, 112 + 113 + 114, 14, 23, 1234, 41, 5, 0};
        for (int i = 0; i < 9; i++) {
            due(names[i], x.tried(1 + i, 1), want[i]);
        }
        x.go(0, 1);
        x.wage(1, 90);
        x.trade(5, 17, 1, 1);
        go(x, 30);
        want[0] = 90;
        want[1] = 1;
        want[2] = 12 * 112 + 66;
        want[8] = 17;
        for (int i = 0; i < 9; i++) {
            due(names[i] + " now", x.tried(1 + i, 1), want[i]);
        }
    }

    private static long claimedAnd(String text, int... claimed) {
        int[] all = new int[claimed.length - 1];
        System.arraycopy(claimed, 1, all, 0, all.length);
        LearningPaid x = claimed(all);
        return x.tried(Checks.text(x, text), 1);
    }
}
