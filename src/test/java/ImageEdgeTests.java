import java.util.function.Consumer;

/** Each sentence of promises 38 and 39, and on THE IMAGE, that names a boundary case. */
public final class ImageEdgeTests extends Edges {
    public static void main(String[] args) {
        clocks();
        allIsSo();
        eachByItself();
        butThese();
        itStays();
        imageIsNow();
        numbersAnew();
        monthsAnew();
        owedAgain();
        leftBehind();
        fullAnew();
        Checks.finish("ImageEdgeTests");
    }

    private static void clocks() {
        sentence("38: THE IMAGE is as all is now: the clock; 39: BACK to THE IMAGE: the clock");
        LearningPaid x = new LearningPaid();
        due("back to 0", x.back(), 0);
        due("image of 0", x.image(), 0);
        x.months(7);
        due("back to 0", x.back(), 0);
        due("the clock", x.about(0), 0);
        x.months(9);
        due("image of 9", x.image(), 9);
        due("the clock stays", x.about(0), 9);
        x.months(1);
        due("back to 9", x.back(), 9);
        go(x, 600);
        due("image of 600", x.image(), 600);
        due("back to 600", x.back(), 600);
    }

    /** What differs of what an image holds, if this is done to a town and it then goes back. */
    private static String otherBehind(Consumer<LearningPaid> done) {
        State before = State.held(Edges::town);
        State behind = State.held(x -> {
            Edges.town(x);
            x.image();
            done.accept(x);
            x.back();
        });
        return behind.otherThan(before);
    }

    private static void undoes(String call, Consumer<LearningPaid> done) {
        State before = State.held(Edges::town);
        State changed = State.held(x -> {
            Edges.town(x);
            x.image();
            done.accept(x);
        });
        due(call + " changes something", changed.otherThan(before).isEmpty(), false);
        String other = otherBehind(done);
        due(call + " and back: " + other, other.isEmpty(), true);
        String kept = State.held(x -> {
            Edges.town(x);
            done.accept(x);
            x.image();
            x.firm();
            x.months(1);
            x.back();
        }).otherThan(changed);
        due(call + " and an image: " + kept, kept.isEmpty(), true);
    }

    private static void allIsSo() {
        sentence("IV: BACK: all is so again");
        due("at once: " + otherBehind(x -> { }), otherBehind(x -> { }).isEmpty(), true);
        String other = otherBehind(x -> {
            x.hand(20, 0, 5, 0);
            x.wage(0, 9);
            x.course(0, 0, 1, 1, 1, 6, 6, 0, 0);
            x.join(6, 7);
            x.join(5, 8);
            x.marked(7, 90);
            x.claim(3);
            x.claim(7);
            x.appeal(0);
            x.giveUp(6);
            x.months(13);
            for (int hand = 0; hand < 7; hand++) {
                x.go(hand, 4);
            }
            x.firm();
            for (int i = 0; i < 8; i++) {
                x.trade(i, 9, 8, 7);
                x.paper(i, 6);
            }
            for (int i = 0; i < 6; i++) {
                x.result(i, 99 - i);
            }
            x.end(0);
            rule(x, "levy 77; member 1=1; stay 33; cap 3; mark 3; proof 3;", 0);
            x.months(2);
        });
        due("much at once: " + other, other.isEmpty(), true);
    }

    private static void eachByItself() {
        sentence("IV: AN IMAGE: all as it is");
        undoes("firm", LearningPaid::firm);
        undoes("hand", x -> x.hand(20, 0, 5, 0));
        undoes("hand without a FIRM", x -> x.hand(20, 0, 5, NONE));
        undoes("LACK", x -> x.trade(2, 4, 10, 7));
        undoes("COST", x -> x.trade(2, 3, 1, 7));
        undoes("WORTH", x -> x.trade(2, 3, 10, 70));
        undoes("LIFE", x -> x.paper(4, 1));
        undoes("course", x -> x.course(0, 0, 1, 1, 1, 6, 6, 0, 0));
        undoes("wage", x -> x.wage(0, 9));
        undoes("text", x -> {
            x.end(0);
            Checks.text(x, "levy 9;");
        });
        undoes("ruling", x -> x.ruling(2, 5));
        undoes("go to a FIRM", x -> x.go(0, 2));
        undoes("go to none", x -> x.go(0, NONE));
        undoes("go of one that was at none", x -> x.go(3, 1));
        undoes("join", x -> x.join(6, 7));
        undoes("giveUp", x -> x.giveUp(5));
        undoes("marked, and PASSED", x -> x.marked(7, 90));
        undoes("marked, and didn't PASS", x -> x.marked(7, 9));
        undoes("claim", x -> x.claim(3));
        undoes("appeal", x -> x.appeal(0));
        undoes("months", x -> x.months(1));
        undoes("result", x -> x.result(0, 99));
    }

    private static void butThese() {
        sentence("IV: AN IMAGE: all .. but the tape");
        LearningPaid x = new LearningPaid();
        Checks.tape(x, "levy 1;");
        x.image();
        x.feed(0x6d61726b, 0x20353b20, 0x20202020, 0x20202020, 0x20202020);
        x.back();
        due("bytes", x.about(8), 27);
        due("a TEXT of all of them", x.text(), 0);
        x.ruling(0, 0);
        due("its levy", x.ruled(1, 0, 0), 0);
        due("its mark", x.ruled(6, 0, 0), 0);
        x.back();
        due("the tape is empty", x.about(8), 0);
        due("the TEXT is gone", x.about(4), 0);
        sentence("IV: AN IMAGE: all .. but the latest FAULT");
        x = new LearningPaid();
        Checks.text(x, "levy;");
        x.image();
        Checks.text(x, "mark 101;");
        x.back();
        due("fault", x.fault(0), 2);
        due("place", x.fault(1), 5);
        Checks.text(x, "levy 1;");
        x.back();
        due("no TEXT", x.about(4), 0);
        due("without a FAULT", x.fault(0), 0);
        due("without a place", x.fault(1), NONE);
        sentence("IV: AN IMAGE: all .. but THE SHEET");
        x = withFirms(1);
        rule(x, "levy 64;", 0);
        x.image();
        x.months(1);
        x.sheet(0);
        x.alter(5, true, 3);
        due("one is other", x.check(0), 1);
        x.back();
        due("and PAID, as the books are then", x.check(0), 2);
        x.alter(0, false, 64);
        due("altered to 0", x.check(0), 1);
        due("FIRM", x.check(1), 5);
        due("side", x.check(2), 1);
        x = withFirms(1);
        x.image();
        x.back();
        due("none was taken", x.check(0), NONE);
        x.sheet(0);
        x.back();
        due("one was taken", x.check(0), 0);
    }

    private static void itStays() {
        sentence("39: (it stays)");
        LearningPaid x = new LearningPaid();
        x.firm();
        x.hand(20, 0, 1000, 0);
        x.months(3);
        x.image();
        for (int i = 0; i < 4; i++) {
            x.months(2 + i);
            x.firm();
            x.wage(0, 5 + i);
            due("back", x.back(), 3);
            due("firms", x.about(1), 1);
            due("wage", x.handOf(0, 2), 1000);
            due("fund", x.fund(), 30);
        }
        due("twice in a row", x.back(), 3);
    }

    private static void imageIsNow() {
        sentence("38: THE IMAGE is as all is now: what it was ahead of that is gone");
        LearningPaid x = withFirms(1);
        x.image();
        x.firm();
        x.image();
        x.firm();
        x.back();
        due("two", x.about(1), 2);
        x.back();
        due("two", x.about(1), 2);
        sentence("38: an image changes nothing");
        String other = State.held(y -> {
            Edges.town(y);
            y.image();
        }).otherThan(State.held(Edges::town));
        due("what is other, if anything: " + other, other.isEmpty(), true);
        String aside = State.aside(y -> {
            Edges.town(y);
            y.image();
            y.back();
        }).otherThan(State.aside(Edges::town));
        due("nor what is aside, nor does going back: " + aside, aside.isEmpty(), true);
    }

    private static void numbersAnew() {
        sentence("IV: BACK: all is so again: what comes then has its numbers anew");
        LearningPaid x = crowd(2, 2, 2);
        rule(x, "levy 1;", 0);
        x.join(0, 0);
        x.image();
        for (int i = 0; i < 2; i++) {
            due("firm", x.firm(), 2);
            due("hand", x.hand(20 + i, 1, 50, 2), 2);
            due("course", x.course(3 + i, 1, 1, 1 + i, 1, 0, 0, 1, 0), 2);
            due("text", Checks.text(x, "mark " + i + ";"), 1);
            due("ruling", x.ruling(1, 3 + i), 2);
            due("join", x.join(1, 2), 1);
            due("of its hand", x.handOf(2, 0), 20 + i);
            due("its trainer", x.joined(1, 8), 3 + i);
            due("its seats", x.about(12), i);
            due("its rule", x.ruled(6, 4, 0), 1);
            due("from its month", x.ruled(6, 3, 0), i == 0 ? 1 : NONE);
            x.back();
            due("firm 2 is none", x.firmOf(2, 0, 0), NONE);
            due("hand 2 is none", x.handOf(2, 0), NONE);
            due("course 2 is none", x.about(12), NONE);
            due("text 1 is none", x.tried(1, 0), NONE);
            due("no rule", x.ruled(6, 9, 9), NONE);
            due("joined 1 is none", x.joined(1, 0), NONE);
        }
    }

    private static void monthsAnew() {
        sentence("IV: BACK: MONTHS that go by anew");
        LearningPaid x = withFirms(1);
        x.hand(20, 0, 1000, 0);
        x.months(2);
        x.image();
        x.firm();
        x.go(0, 1);
        x.months(3);
        due("of FIRM 1", x.firmOf(1, 0, 2), 30);
        x.back();
        due("of FIRM 0", x.firmOf(0, 0, 2), 20);
        x.firm();
        due("of FIRM 1, which is new", x.firmOf(1, 0, 2), 0);
        x.wage(0, 5000);
        x.months(1);
        due("of FIRM 0", x.firmOf(0, 0, 2), 70);
        due("of FIRM 1", x.firmOf(1, 0, 2), 0);
        due("the fund", x.fund(), 70);
        Checks.text(x, "levy wages;");
        Checks.text(x, "levy paid;");
        Checks.text(x, "levy 1;");
        due("tried: wages", x.tried(0, 0), 1000 + 1000 + 5000);
        due("tried: paid", x.tried(1, 0), 0 + 10 + 20);
        due("tried: how many there were", x.tried(2, 0), 1 + 1 + 2);
        sentence("IV: BACK: of MONTHS behind THE IMAGE nothing is PAID");
        x = withFirms(1);
        rule(x, "levy 5;", 0);
        go(x, 10);
        x.image();
        go(x, 30);
        x.back();
        due("year 0", x.firmOf(0, 0, 2), 50);
        due("year 1", x.firmOf(0, 1, 2), 0);
        due("year 2", x.firmOf(0, 2, 2), 0);
        x.months(3);
        due("year 0", x.firmOf(0, 0, 2), 60);
        due("year 1", x.firmOf(0, 1, 2), 5);
    }

    /** FIRMS 0 to 19, HANDS 0 to 4 at FIRM 0 that PASSED a COURSE of PRICE 1000, of which all is due. */
    private static LearningPaid leavers() {
        LearningPaid x = withFirms(20);
        rule(x, "stay 10; levy 5;", 0);
        course(x, 0, 0);
        for (int hand = 0; hand < 5; hand++) {
            x.hand(20, 0, 0, 0);
            x.join(hand, 0);
        }
        x.months(1);
        for (int joined = 0; joined < 5; joined++) {
            x.marked(joined, 90);
        }
        return x;
    }

    private static void owedAgain() {
        sentence("IV: AN IMAGE: all: what is owed by each");
        int[] by = {NONE, 1, 17, 18, 19};
        LearningPaid x = leavers();
        x.image();
        for (int hand = 0; hand < 5; hand++) {
            due("goes to " + by[hand], x.go(hand, by[hand]), 1000);
        }
        x.back();
        for (int hand = 0; hand < 5; hand++) {
            due("not owed by " + by[hand], x.owed(0, by[hand]), 0);
            due("bound again", x.bound(hand), 1000);
            due("goes again to " + by[hand], x.go(hand, by[hand]), 1000);
        }
        due("by itself", x.handOf(0, 4), 1000);
        x.image();
        for (int hand = 0; hand < 5; hand++) {
            x.go(hand, 0);
        }
        x.back();
        for (int hand = 0; hand < 5; hand++) {
            due("owed by " + by[hand], x.owed(0, by[hand]), 1000);
            due("is at " + by[hand], x.handOf(hand, 3), by[hand]);
            x.go(hand, 0);
            due("bound no more", x.bound(hand), 0);
        }
        due("by itself", x.handOf(0, 4), 1000);
    }

    private static void leftBehind() {
        sentence("IV: BACK: what FIRMS paid that aren't there any more is gone");
        LearningPaid x = withFirms(1);
        rule(x, "levy 5;", 0);
        x.image();
        x.firm();
        x.months(3);
        due("FIRM 1", x.firmOf(1, 0, 2), 15);
        x.back();
        x.months(3);
        x.firm();
        due("FIRM 1 anew", x.firmOf(1, 0, 2), 0);
        rule(x, "levy 1+paid;", 0);
        x.months(1);
        due("FIRM 1, by what it paid", x.firmOf(1, 0, 2), 1);
        due("FIRM 0, by what it paid", x.firmOf(0, 0, 2), 15 + 16);
        due("tried", x.tried(1, 0), (1 + 6 + 11 + 16) + 1);
    }

    private static void fullAnew() {
        sentence("IV: BACK from what is full to what isn't");
        LearningPaid x = withFirms(19);
        x.image();
        x.firm();
        due("full", x.firm(), NONE);
        x.back();
        due("one more", x.firm(), 19);
        x = new LearningPaid();
        for (int i = 0; i < 9; i++) {
            Checks.text(x, "levy 1;");
        }
        x.image();
        Checks.text(x, "levy 2;");
        due("full", x.text(), NONE);
        x.back();
        due("one more", x.text(), 9);
        sentence("IV: back to what is full");
        x = withFirms(20);
        x.image();
        x.back();
        due("full", x.firm(), NONE);
    }
}
