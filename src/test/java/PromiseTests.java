import java.io.IOException;
import java.nio.charset.StandardCharsets;
import java.nio.file.Files;
import java.nio.file.Path;
import java.util.Set;
import java.util.TreeSet;
import java.util.regex.Matcher;
import java.util.regex.Pattern;

/** At least one test of each promise: ordinary inputs, the edges that the document names, wrong inputs. */
public final class PromiseTests {
    private static final int NONE = LearningPaid.NONE;
    private static final Set<Integer> TESTED = new TreeSet<>();

    public static void main(String[] args) throws IOException {
        test(1, PromiseTests::newObject);
        test(2, PromiseTests::firm);
        test(3, PromiseTests::hand);
        test(4, PromiseTests::trade);
        test(5, PromiseTests::paper);
        test(6, PromiseTests::course);
        test(7, PromiseTests::wage);
        test(8, PromiseTests::feed);
        test(9, PromiseTests::end);
        test(10, PromiseTests::text);
        test(10, PromiseTests::answersOfClauses);
        test(11, PromiseTests::faults);
        test(12, PromiseTests::ruling);
        test(13, PromiseTests::ruled);
        test(14, PromiseTests::go);
        test(14, PromiseTests::goOnceAndBehindPassing);
        test(14, PromiseTests::stays);
        test(15, PromiseTests::join);
        test(15, PromiseTests::joinAll);
        test(16, PromiseTests::giveUp);
        test(17, PromiseTests::marked);
        test(18, PromiseTests::claim);
        test(18, PromiseTests::claimNames);
        test(18, PromiseTests::claimCap);
        test(19, PromiseTests::appeal);
        test(20, PromiseTests::joined);
        test(21, PromiseTests::has);
        test(22, PromiseTests::bound);
        test(23, PromiseTests::owed);
        test(24, PromiseTests::months);
        test(24, PromiseTests::levies);
        test(25, PromiseTests::firmOf);
        test(26, PromiseTests::handOf);
        test(27, PromiseTests::trainer);
        test(28, PromiseTests::way);
        test(28, PromiseTests::wayByHeld);
        test(29, PromiseTests::places);
        test(30, PromiseTests::proves);
        test(31, PromiseTests::result);
        test(32, PromiseTests::trial);
        test(33, PromiseTests::drawn);
        test(34, PromiseTests::tried);
        test(35, PromiseTests::sheet);
        test(36, PromiseTests::alter);
        test(37, PromiseTests::check);
        test(38, PromiseTests::image);
        test(39, PromiseTests::back);
        test(40, PromiseTests::about);
        test(41, PromiseTests::fund);
        everyPromise(Path.of(args.length > 0 ? args[0] : "../shared").resolve("DOC.md"));
        Checks.finish("PromiseTests");
    }

    private static void test(int promise, Runnable tests) {
        int before = Checks.made();
        tests.run();
        if (Checks.made() > before) {
            TESTED.add(promise);
        }
    }

    private static void everyPromise(Path doc) throws IOException {
        Matcher heading = Pattern.compile("(?m)^## Promise (\\d+): ").matcher(Files.readString(doc, StandardCharsets.UTF_8));
        int promises = 0;
        while (heading.find()) {
            promises++;
            Checks.isTrue("promise " + heading.group(1) + " has a test", TESTED.contains(Integer.valueOf(heading.group(1))));
        }
        due("promises of the document", promises, 41);
    }

    private static void due(String call, long got, long want) {
        Checks.due(call, got, want);
    }

    private static void due(String call, boolean got, boolean want) {
        Checks.due(call, got, want);
    }

    private static void rule(LearningPaid x, String text, int from) {
        int number = Checks.text(x, text);
        Checks.isTrue("text <" + text + ">", number != NONE);
        Checks.isTrue("ruling <" + text + ">", x.ruling(number, from) != NONE);
    }

    private static LearningPaid withFirms(int n) {
        LearningPaid x = new LearningPaid();
        for (int i = 0; i < n; i++) {
            x.firm();
        }
        return x;
    }

    private static void go(LearningPaid x, int month) {
        while (x.about(0) < month) {
            x.months(Math.min(60, month - x.about(0)));
        }
    }

    /**
     * FIRMS 0, 1, 2; HANDS 0 and 1 at FIRM 0, 2 at FIRM 1, 3 at none; COURSES 0 (MONTHS 2 to 3, gives 4), 1 (5 to 6,
     * gives 5, wants 4), 2 (3 to 4, gives 1), 3 (4 to 4, gives 2).
     */
    private static LearningPaid board() {
        LearningPaid x = withFirms(3);
        x.hand(30, 2, 1600, 0);
        x.hand(40, 3, 800, 0);
        x.hand(20, 2, 1000, 1);
        x.hand(50, 1, 100, NONE);
        x.course(3, 2, 80, 2, 600, 2, 3, 4, 0);
        x.course(3, 2, 40, 5, 300, 5, 6, 5, 16);
        x.course(0, 1, 10, 5, 100, 3, 4, 1, 0);
        x.course(1, 1, 10, 5, 100, 4, 4, 2, 0);
        return x;
    }

    /** One FIRM with a HAND (25 years, wage 1000) that PASSED a COURSE of MONTH 0 (1000 a place); the clock is 1. */
    private static LearningPaid passed(String text) {
        LearningPaid x = withFirms(3);
        rule(x, text, 0);
        x.hand(25, 2, 1000, 0);
        x.course(0, 1, 20, 5, 1000, 0, 0, 2, 0);
        due("join", x.join(0, 0), 0);
        x.months(1);
        due("marked", x.marked(0, 100), 1);
        return x;
    }

    private static void newObject() {
        LearningPaid x = new LearningPaid();
        for (int what = 0; what <= 8; what++) {
            due("new: about " + what, x.about(what), 0);
        }
        due("new: about 10", x.about(10), NONE);
        due("new: fund", x.fund(), 0);
        due("new: check", x.check(0), NONE);
        due("new: fault", x.fault(0), NONE);
        due("new: fault place", x.fault(1), NONE);
        x.trade(0, 3, 3, 3);
        x.paper(0, 3);
        x.firm();
        x.hand(30, 0, 1000, 0);
        x.course(0, 0, 1, 1, 1, 5, 5, 0, 0);
        x.join(0, 0);
        x.months(5);
        x.result(0, 5);
        due("new: back", x.back(), 0);
        for (int what = 0; what <= 8; what++) {
            due("new and back: about " + what, x.about(what), 0);
        }
        due("new and back: fund", x.fund(), 0);
        due("new and back: firm", x.firm(), 0);
        due("new and back: paid", x.firmOf(0, 0, 2), 0);
        due("new and back: places", x.places(2000, NONE), 0);
    }

    private static void firm() {
        LearningPaid x = new LearningPaid();
        for (int i = 0; i < 20; i++) {
            due("firm", x.firm(), i);
        }
        due("firm 21", x.firm(), NONE);
        due("firm 22", x.firm(), NONE);
        due("firms", x.about(1), 20);
    }

    private static void hand() {
        LearningPaid x = withFirms(1);
        due("age 13", x.hand(13, 0, 0, 0), NONE);
        due("age 81", x.hand(81, 0, 0, 0), NONE);
        due("trade -1", x.hand(14, -1, 0, 0), NONE);
        due("trade 8", x.hand(14, 8, 0, 0), NONE);
        due("wage -1", x.hand(14, 0, -1, 0), NONE);
        due("wage 5001", x.hand(14, 0, 5001, 0), NONE);
        due("firm -2", x.hand(14, 0, 0, -2), NONE);
        due("firm 1", x.hand(14, 0, 0, 1), NONE);
        due("no hands", x.about(2), 0);
        due("least", x.hand(14, 0, 0, NONE), 0);
        due("most", x.hand(80, 7, 5000, 0), 1);
        due("least age", x.handOf(0, 0), 14);
        due("without a firm", x.handOf(0, 3), NONE);
        due("most age", x.handOf(1, 0), 80);
        due("most trade", x.handOf(1, 1), 7);
        due("most wage", x.handOf(1, 2), 5000);
        due("its firm", x.handOf(1, 3), 0);
        for (int i = 2; i < 60; i++) {
            due("hand", x.hand(20, 0, 1, 0), i);
        }
        due("hand 61", x.hand(20, 0, 1, 0), NONE);
        due("hands", x.about(2), 60);
    }

    private static void trade() {
        LearningPaid x = new LearningPaid();
        due("trade -1", x.trade(-1, 1, 1, 1), false);
        due("trade 8", x.trade(8, 1, 1, 1), false);
        due("lack -1", x.trade(0, -1, 1, 1), false);
        due("lack 51", x.trade(0, 51, 1, 1), false);
        due("cost 0", x.trade(0, 1, 0, 1), false);
        due("cost 201", x.trade(0, 1, 201, 1), false);
        due("worth -1", x.trade(0, 1, 1, -1), false);
        due("worth 101", x.trade(0, 1, 1, 101), false);
        due("nothing is lacked", x.places(2000, NONE), 0);
        due("least", x.trade(0, 0, 1, 0), true);
        due("most", x.trade(7, 50, 200, 100), true);
        due("most worth", x.places(2000, NONE), 1000);
        due("most cost", x.places(2000, -2), 2000);
        due("false changes nothing", x.trade(7, 1, 1, 101), false);
        due("still most worth", x.places(2000, NONE), 1000);
        due("proves all", x.proves(0, 0, 1), 5000);
    }

    private static void paper() {
        LearningPaid x = new LearningPaid();
        due("paper -1", x.paper(-1, 1), false);
        due("paper 8", x.paper(8, 1), false);
        due("life -1", x.paper(0, -1), false);
        due("life 121", x.paper(0, 121), false);
        due("least", x.paper(0, 0), true);
        due("most", x.paper(7, 120), true);
        x = passed("mark 0;");
        due("for ever at first", x.has(0, 2, 599), 1);
        due("paper 2, 120", x.paper(2, 120), true);
        due("up to its life", x.has(0, 2, 120), 1);
        due("beyond its life", x.has(0, 2, 121), 0);
        due("paper 2, 121", x.paper(2, 121), false);
        due("paper 2, 0", x.paper(2, 0), true);
        due("for ever again", x.has(0, 2, 599), 1);
    }

    private static void course() {
        LearningPaid x = new LearningPaid();
        int[] good = {0, 0, 1, 1, 0, 5, 5, 0, 0};
        int[] least = {0, 0, 1, 1, 0, 0, 5, 0, 0};
        int[] most = {7, 7, 200, 20, 5000, 5, 599, 7, 255};
        for (int i = 0; i < 9; i++) {
            int[] told = good.clone();
            told[i] = least[i] - 1;
            due("course, below in " + i, course(x, told), NONE);
            told[i] = most[i] + 1;
            due("course, above in " + i, course(x, told), NONE);
        }
        due("course, last below first", course(x, new int[] {0, 0, 1, 1, 0, 6, 5, 0, 0}), NONE);
        due("no courses", x.about(3), 0);
        due("least", course(x, new int[] {0, 0, 1, 1, 0, 0, 0, 0, 0}), 0);
        due("most", course(x, new int[] {7, 7, 200, 20, 5000, 599, 599, 7, 255}), 1);
        due("seats of the least", x.about(10), 1);
        due("seats of the most", x.about(11), 20);
        for (int i = 2; i < 24; i++) {
            due("course", course(x, good), i);
        }
        due("course 25", course(x, good), NONE);
        due("courses", x.about(3), 24);
    }

    private static int course(LearningPaid x, int[] a) {
        return x.course(a[0], a[1], a[2], a[3], a[4], a[5], a[6], a[7], a[8]);
    }

    private static void wage() {
        LearningPaid x = board();
        due("hand -1", x.wage(-1, 5), false);
        due("hand 4", x.wage(4, 5), false);
        due("wage -1", x.wage(0, -1), false);
        due("wage 5001", x.wage(0, 5001), false);
        due("unchanged", x.handOf(0, 2), 1600);
        due("join", x.join(0, 0), 0);
        x.months(1);
        due("levy", x.fund(), 24 + 10);
        due("wage 5000", x.wage(0, 5000), true);
        due("its wage", x.handOf(0, 2), 5000);
        due("wages", x.firmOf(0, 0, 0), 5800);
        due("lost is of then", x.joined(0, 7), 800);
        x.months(1);
        due("levy from then on", x.fund(), 34 + 58 + 10);
        due("wage 0", x.wage(0, 0), true);
        due("wages less", x.firmOf(0, 0, 0), 800);
    }

    private static void feed() {
        LearningPaid x = new LearningPaid();
        int blank = 0x20202020;
        due("feed", x.feed(0x6c657679, 0x20373b20, blank, blank, blank), 20);
        due("its bytes are 'levy 7; '", x.text(), 0);
        x.ruling(0, 0);
        x.firm();
        x.months(1);
        due("as it was fed", x.fund(), 7);
        due("empty again", x.about(8), 0);
        // By each place of the last word: the byte that is no TOKEN is found at it.
        for (int i = 0; i < 20; i++) {
            int[] words = {blank, blank, blank, blank, blank};
            words[i / 4] ^= (0x20 ^ 0x80) << 24 - i % 4 * 8;
            due("feed", x.feed(words[0], words[1], words[2], words[3], words[4]), 20);
            due("no token", x.text(), NONE);
            due("its place", x.fault(1), i);
        }
        for (int i = 1; i <= 15; i++) {
            due("feed", x.feed(blank, blank, blank, blank, blank), 20 * i);
        }
        due("feed beyond 300", x.feed(blank, blank, blank, blank, blank), NONE);
        due("none come", x.about(8), 300);
        due("end 281", x.end(281), 281);
        due("feed to 301", x.feed(blank, blank, blank, blank, blank), NONE);
        due("none come", x.about(8), 281);
        due("end 280", x.end(280), 280);
        due("feed to 300", x.feed(blank, blank, blank, blank, blank), 300);
    }

    private static void end() {
        LearningPaid x = new LearningPaid();
        due("end 1 of nothing", x.end(1), NONE);
        due("end 0 of nothing", x.end(0), 0);
        x.feed(0, 0, 0, 0, 0);
        due("end -1", x.end(-1), NONE);
        due("end 21", x.end(21), NONE);
        due("nothing is done", x.about(8), 20);
        due("end 20", x.end(20), 20);
        due("end 3", x.end(3), 3);
        due("has 3", x.about(8), 3);
        due("end 4", x.end(4), NONE);
        due("end 0", x.end(0), 0);
        due("empty", x.about(8), 0);
    }

    private static void text() {
        LearningPaid x = new LearningPaid();
        due("an empty text", x.text(), 0);
        due("faulty", Checks.text(x, "levy 1"), NONE);
        due("tape is empty behind a fault", x.about(8), 0);
        due("not one more", x.about(4), 1);
        for (int i = 1; i < 10; i++) {
            due("text", Checks.text(x, "levy " + i + ";"), i);
            due("tape is empty", x.about(8), 0);
        }
        due("texts", x.about(4), 10);
        Checks.tape(x, "levy");
        due("text 11", x.text(), NONE);
        due("the tape stays", x.about(8), 4);
        due("it wasn't read", x.fault(0), 0);
        StringBuilder longest = new StringBuilder("levy ");
        while (longest.length() < 297) {
            longest.append("1+");
        }
        longest.append("11;");
        x = withFirms(1);
        due("300 bytes", longest.length(), 300);
        rule(x, longest.toString(), 0);
        x.months(1);
        due("by 300 bytes", x.fund(), 146 + 11);
    }

    private static void fault(String text, int fault, int place) {
        LearningPaid x = new LearningPaid();
        due("<" + text + "> is a text", Checks.text(x, text) == NONE, fault != 0);
        due("<" + text + "> fault", x.fault(0), fault);
        due("<" + text + "> place", x.fault(1), place);
        due("<" + text + "> fault -1", x.fault(-1), NONE);
        due("<" + text + "> fault 2", x.fault(2), NONE);
    }

    private static void faults() {
        fault("", 0, NONE);
        fault(" \n ", 0, NONE);
        fault("member 1=1;levy 1;back 1;stay 1;cap 1;proof 1;mark 1;", 0, NONE);
        fault("mark100;proof0;", 0, NONE);
        fault("member not wages<heads and paid<=month or 1>2 and not not 1>=2 or 3=4 and 5#6;", 0, NONE);
        fault("back min(hours,price)*max ( age , trade ) - -lack/(wages);", 0, NONE);
        fault("stay hours+price+age+trade+lack;", 0, NONE);
        // 1: it can't stand there, or is none
        fault("levy", 1, 4);
        fault("levy  ", 1, 6);
        fault("levy ;", 1, 5);
        fault("levy 1", 1, 6);
        fault("levy 1 2;", 1, 7);
        fault("levy 1;;", 1, 7);
        fault(";", 1, 0);
        fault("Levy 1;", 1, 0);
        fault("levys 1;", 1, 0);
        fault("lev 1;", 1, 0);
        fault("wages 1;", 1, 0);
        fault("membermember 1=1;", 1, 0);
        for (String word : new String[] {"members", "memberss", "maxmaxm", "maximum", "m", "aVeryLongWordThatIsNone"}) {
            fault(word + " 1;", 1, 0);
            fault("levy " + word + ";", 1, 5);
        }
        fault("levy wage;", 1, 5);
        fault("levy wagess;", 1, 5);
        fault("levy ages;", 1, 5);
        fault("levy levy;", 1, 5);
        fault("levy 1\t;", 1, 6);
        fault("levy 1\r;", 1, 6);
        fault("levy \u00e9;", 1, 5);
        fault("levy \u00ac;", 1, 5);
        fault("levy 1 ! ;", 1, 7);
        fault("levy (1;", 1, 7);
        fault("levy ();", 1, 6);
        fault("levy 1);", 1, 6);
        fault("levy min 1;", 1, 9);
        fault("levy min;", 1, 8);
        fault("levy max", 1, 8);
        fault("levy min+1;", 1, 8);
        fault("levy 1+max*2;", 1, 10);
        fault("levy min(1;", 1, 10);
        fault("levy min(1);", 1, 10);
        fault("levy min(1,2,3);", 1, 12);
        fault("levy (1,2);", 1, 7);
        fault("levy + 1;", 1, 5);
        fault("levy 1 * ;", 1, 9);
        fault("levy 1 < 2;", 1, 7);
        fault("levy not 1;", 1, 5);
        fault("levy 1 or 2;", 1, 7);
        fault("member 1;", 1, 8);
        fault("member 1<2<3;", 1, 10);
        fault("member 1=<2;", 1, 9);
        fault("member 1< =2;", 1, 10);
        fault("member (1<2);", 1, 9);
        fault("member 1<2 and;", 1, 14);
        fault("member 1<2 or or 1<2;", 1, 14);
        fault("member 1<not 2;", 1, 9);
        fault("member not;", 1, 10);
        fault("member 1<2 not 1<2;", 1, 11);
        fault("proof;", 1, 5);
        fault("proof -1;", 1, 6);
        fault("proof (1);", 1, 6);
        fault("proof 1+1;", 1, 7);
        fault("mark wages;", 1, 5);
        fault("levy wages 12345;", 1, 11);
        fault("12345", 1, 0);
        fault("levy 1; (", 1, 8);
        // 2: a NUMBER that isn't one of those told
        fault("levy 9999;", 0, NONE);
        fault("levy 10000;", 2, 5);
        fault("levy 00000009999;", 0, NONE);
        fault("levy 99999999999999999999;", 2, 5);
        fault("levy 4294967297;", 2, 5);
        fault("proof 60;", 0, NONE);
        fault("proof 61;", 2, 6);
        fault("proof 10000;", 2, 6);
        fault("mark 100;", 0, NONE);
        fault("mark 101;", 2, 5);
        // 3: the ninth that is open
        fault("levy ((((((((1))))))));", 0, NONE);
        fault("levy (((((((((1)))))))));", 3, 13);
        fault("levy --------1;", 0, NONE);
        fault("levy ---------1;", 3, 13);
        fault("levy 1---------1;", 0, NONE);
        fault("levy 1----------1;", 3, 15);
        fault("levy (((((((1)))))))+(((((((1)))))));", 0, NONE);
        fault("levy ((((((((1))))))))+--------1-((((((((1))))))));", 0, NONE);
        fault("levy ((((((((min", 1, 16);
        fault("levy ((((((((min(1,2)", 3, 16);
        fault("levy (((((((min(1,-2)", 3, 18);
        fault("levy (((((((min((1),2)", 3, 16);
        fault("levy (((((((max(1,2))))))));", 0, NONE);
        fault("levy (((((((1-1-1-1)))))));", 0, NONE);
        fault("member not not not not not not not not 1<2;", 0, NONE);
        fault("member not not not not not not not not not 1<2;", 3, 39);
        fault("member not not not not not not not 1<2 and not not 1<2;", 0, NONE);
        fault("member not not not not not not not (1)<(-2);", 3, 40);
        fault("member not not not not not not not (1)<(2);", 0, NONE);
        fault("member not not not not not not not 1<2 and (-(-1))<2 or not(1)<2;", 0, NONE);
        fault("levy (((((((((", 3, 13);
        // 4: for the second time
        fault("levy 1; levy 1;", 4, 8);
        fault("member 1<2;member x", 4, 11);
        fault("proof 1;mark 1;proof 99;", 4, 15);
        fault("back 1;back", 4, 7);
        fault("stay 1;cap 1;stay", 4, 13);
        fault("cap 1;cap", 4, 6);
        fault("mark 1;mark", 4, 7);
        // 5: what isn't a FIRM's, in member, levy or cap
        for (String name : new String[] {"age", "trade", "lack", "hours", "price"}) {
            fault("levy " + name + ";", 5, 5);
            fault("member 1<" + name + ";", 5, 9);
            fault("cap 1+" + name + ";", 5, 6);
            fault("back " + name + ";", 0, NONE);
            fault("stay " + name + ";", 0, NONE);
            fault("levy 1 " + name + ";", 1, 7);
        }
        for (String name : new String[] {"wages", "heads", "paid", "month"}) {
            fault("levy " + name + ";member 1<" + name + ";cap " + name + ";", 0, NONE);
        }
        // The first fault as tokens are come to.
        fault("levy age 10000;", 5, 5);
        fault("levy 10000 age;", 2, 5);
        bytesThatAreNone();
        leftFromAhead();
        LearningPaid x = new LearningPaid();
        Checks.text(x, "levy;");
        Checks.text(x, "levy 1;");
        due("of the latest text", x.fault(0), 0);
        due("of the latest text, place", x.fault(1), NONE);
    }

    private static void bytesThatAreNone() {
        for (int b = 0; b < 256; b++) {
            char c = (char) b;
            if ("<>=#+-*/(),; \n".indexOf(c) < 0 && !(c >= '0' && c <= '9') && !(c >= 'a' && c <= 'z')
                    && !(c >= 'A' && c <= 'Z')) {
                fault(c + "", 1, 0);
                fault("levy " + c + ";", 1, 5);
                fault("levy 1 " + c + " 1;", 1, 7);
                fault("levy 1" + c + ";", 1, 6);
                fault("member 1" + c + "1;", 1, 8);
                fault("member 1<1 " + c + "1<1;", 1, 11);
                fault("le" + c + "vy 1;", 1, 0);
                fault("proof 1" + c, 1, 7);
            }
        }
        StringBuilder most = new StringBuilder();
        for (int i = 0; i < 300; i++) {
            most.append(';');
        }
        fault(most.toString(), 1, 0);
        most.replace(0, 5, "levy ");
        fault(most.toString(), 1, 5);
        fault(("levy " + "1+".repeat(148)).substring(0, 300), 1, 300);
    }

    /** What stood on the tape, or came of a text, ahead of this one. */
    private static void leftFromAhead() {
        LearningPaid x = new LearningPaid();
        Checks.tape(x, "levy 1 23;wages<=");
        x.end(8);
        due("beyond the end", x.text(), NONE);
        due("beyond the end, fault", x.fault(0), 1);
        due("beyond the end, place", x.fault(1), 7);
        Checks.tape(x, "levy 12345");
        x.end(9);
        x.text();
        due("a number's digits beyond the end", x.fault(1), 9);
        Checks.tape(x, "levy wagesx");
        x.end(10);
        x.text();
        due("a word's letters beyond the end", x.fault(1), 10);
        Checks.tape(x, "member 1<=");
        x.end(9);
        x.text();
        due("a sign's second byte beyond the end", x.fault(1), 9);
        Checks.tape(x, "levy 1  ;");
        x.end(7);
        x.text();
        due("blanks beyond the end", x.fault(1), 7);
        Checks.text(x, "levy (((((((((((");
        due("deep", x.fault(0), 3);
        due("not as deep", Checks.text(x, "levy ((((((((1))))))));"), 0);
        x = withFirms(1);
        for (int i = 0; i < 5; i++) {
            Checks.text(x, "levy " + "1+".repeat(140) + "+;");
        }
        rule(x, "member 1=1; levy " + "2+".repeat(100) + "2;", 0);
        x.months(1);
        due("after long faulty ones", x.fund(), 202);
    }

    /** What a FIRM with two HANDS (WAGES 2400) owes in MONTH 1 by this SUM; it PAID 5 in MONTH 0. */
    private static long owes(String sum) {
        LearningPaid x = withFirms(1);
        x.hand(30, 0, 1600, 0);
        x.hand(30, 0, 800, 0);
        rule(x, "levy 5;", 0);
        x.months(1);
        rule(x, "levy " + sum + ";", 0);
        x.months(1);
        return x.fund() - 5;
    }

    private static boolean isMember(String either) {
        LearningPaid x = withFirms(1);
        rule(x, "levy 5; member " + either + ";", 0);
        x.months(1);
        return x.fund() == 5;
    }

    private static void answersOfClauses() {
        due("wages", owes("wages"), 2400);
        due("heads", owes("heads"), 2);
        due("paid", owes("paid"), 5);
        due("month", owes("month"), 1);
        due("from the left", owes("100-10-20"), 70);
        due("from the left", owes("100/10/3*2"), 6);
        due("product first", owes("2+3*4"), 14);
        due("brackets", owes("(2+3)*4"), 20);
        due("minus", owes("10*-2+50"), 30);
        due("minus minus", owes("7 - - 3"), 10);
        due("minus of ONE", owes("100 + -2*3"), 94);
        due("cut towards 0", owes("100+(-7)/2"), 97);
        due("cut towards 0", owes("100-7/2"), 97);
        due("by 0", owes("9+7/0"), 9);
        due("by 0", owes("9+-7/(1-1)"), 9);
        due("min", owes("min(7,3)"), 3);
        due("min", owes("min(3,7)"), 3);
        due("max", owes("max(7,3)"), 7);
        due("max of sums", owes("max(min(1,2)+1,1)*10"), 20);
        due("below 0", owes("-1"), 0);
        due("most", owes("9999*9999"), 1000000);
        due("just the most", owes("1000*1000"), 1000000);
        due("below the most", owes("1000*1000-1"), 999999);
        due("cut at each step", owes("9999*9999*9999/9999/9"), 1000000000 / 9999 / 9);
        due("cut at a thousand million", owes("9999*9999*11/1000/1000"), 1000);
        due("cut at less", owes("-9999*9999*11/1000/1000+2000"), 1000);
        due("cut of a sum", owes("(9999*9999*10+9999*9999)/1000/1000"), 1000);
        due("cut of a difference", owes("(0-9999*9999*10-9999*9999)/1000/1000+2000"), 1000);
        due("cut, then less", owes("9999*9999*9999-9999*9999*9999"), 0);
        due("just the most", isMember("1000*1000*1000=9999*9999*9999"), true);
        due("just the most", isMember("1000*1000*1000+1=1000*1000*1000"), true);
        due("just below it", isMember("1000*1000*1000-1<1000*1000*1000"), true);
        due("just the least", isMember("-1000*1000*1000-1=-1000*1000*1000"), true);
        due("just above it", isMember("-1000*1000*1000+1>-1000*1000*1000"), true);
        due("<", isMember("1<2"), true);
        due("<", isMember("2<2"), false);
        due(">", isMember("2>1"), true);
        due(">", isMember("2>2"), false);
        due("<=", isMember("2<=2"), true);
        due("<=", isMember("3<=2"), false);
        due(">=", isMember("2>=2"), true);
        due(">=", isMember("2>=3"), false);
        due("=", isMember("2=2"), true);
        due("=", isMember("2=3"), false);
        due("#", isMember("2#3"), true);
        due("#", isMember("2#2"), false);
        due("not", isMember("not 1=1"), false);
        due("not not", isMember("not not 1=1"), true);
        for (String not : new String[] {"1<1", "1>1", "1<=0", "0>=1", "1=0", "1#1"}) {
            due("not " + not, isMember("not " + not), true);
            due("not not " + not, isMember("not not " + not), false);
            due(not + " or", isMember(not + " or 1=1"), true);
            due(not + " and", isMember(not + " and 1=1"), false);
        }
        due("not of one ASK", isMember("not 1=2 and 1=2"), false);
        due("not of one ASK", isMember("not 1=1 or 1=1"), true);
        due("and", isMember("1=1 and 1=2"), false);
        due("and", isMember("1=1 and 1=1"), true);
        due("or", isMember("1=2 or 1=1"), true);
        due("or", isMember("1=2 or 1=2"), false);
        due("and ahead of or", isMember("1=1 or 1=1 and 1=2"), true);
        due("and ahead of or", isMember("1=2 and 1=1 or 1=1"), true);
        due("and ahead of or", isMember("1=2 and 1=1 or 1=2 and 1=1 or 1=2"), false);
        due("or or", isMember("1=2 or 1=1 or 1=2"), true);
        due("or or", isMember("1=1 or 1=2 or 1=2"), true);
        due("or or", isMember("1=2 or 1=2 or 1=1"), true);
        due("or or or", isMember("1=1 or 1=2 or 1=2 and 1=1 or 1=2"), true);
        due("or, and, or", isMember("1=2 or 1=1 and 1=1 or 1=2"), true);
        due("sums", isMember("1+1=4/2"), true);
        String deep = "1=2 or 1=1 and 9<";
        for (int i = 0; i < 8; i++) {
            deep += "1+1*min(1,";
        }
        deep += "1+1*8";
        for (int i = 0; i < 8; i++) {
            deep += ")";
        }
        due("deep: 1+1*min(1, ..) is 2", isMember(deep), false);
        due("deep", isMember(deep.replace("9<", "1<")), true);
    }

    private static void ruling() {
        LearningPaid x = new LearningPaid();
        due("no text", x.ruling(0, 0), NONE);
        Checks.text(x, "levy 1;");
        due("text -1", x.ruling(-1, 0), NONE);
        due("text 1", x.ruling(1, 0), NONE);
        due("from -1", x.ruling(0, -1), NONE);
        due("from 600", x.ruling(0, 600), NONE);
        due("none", x.about(5), 0);
        due("from 0", x.ruling(0, 0), 1);
        due("from 599", x.ruling(0, 599), 2);
        x.months(10);
        due("from a month gone by", x.ruling(0, 3), 3);
        for (int i = 4; i <= 40; i++) {
            due("ruling", x.ruling(0, 20), i);
        }
        due("ruling 41", x.ruling(0, 20), NONE);
        due("rulings", x.about(5), 40);
    }

    private static void ruled() {
        LearningPaid x = new LearningPaid();
        for (int sort = 0; sort < 7; sort++) {
            due("none at first", x.ruled(sort, 0, 0), NONE);
        }
        Checks.text(x, "levy 1;");
        Checks.text(x, "levy 2; mark 10;");
        Checks.text(x, "mark 20;");
        x.ruling(0, 5);
        due("below from", x.ruled(1, 4, 0), NONE);
        due("from", x.ruled(1, 5, 0), 0);
        due("ever on", x.ruled(1, 599, 599), 0);
        x.months(2);
        x.ruling(1, 5);
        due("not yet told", x.ruled(1, 5, 1), 0);
        due("of like ones the latest", x.ruled(1, 5, 2), 1);
        x.ruling(0, 3);
        due("from 3", x.ruled(1, 4, 2), 0);
        due("the greatest from", x.ruled(1, 5, 2), 1);
        x.ruling(2, 5);
        due("mark by the latest", x.ruled(6, 5, 2), 2);
        due("levy by the latest that has one", x.ruled(1, 5, 2), 1);
        due("known later", x.ruled(6, 5, 3), 2);
        due("mark not yet told", x.ruled(6, 5, 1), NONE);
        Checks.text(x, "member 1=1; back 1; stay 1; cap 1; proof 1;");
        x.ruling(3, 7);
        for (int sort = 0; sort < 6; sort++) {
            due("sort " + sort, x.ruled(sort, 7, 2), sort == 1 ? 1 : 3);
        }
        due("sort -1", x.ruled(-1, 0, 0), -2);
        due("sort 7", x.ruled(7, 0, 0), -2);
        due("month -1", x.ruled(0, -1, 0), -2);
        due("month 600", x.ruled(0, 600, 0), -2);
        due("known -1", x.ruled(0, 0, -1), -2);
        due("known 600", x.ruled(0, 0, 600), -2);
    }

    private static void go() {
        LearningPaid x = passed("stay 10;");
        go(x, 4);
        due("it is there", x.go(0, 0), NONE);
        due("hand -1", x.go(-1, 1), NONE);
        due("hand 1", x.go(1, 1), NONE);
        due("firm -2", x.go(0, -2), NONE);
        due("firm 3", x.go(0, 3), NONE);
        due("still there", x.handOf(0, 3), 0);
        due("bound", x.bound(0), 700);
        due("to firm 1", x.go(0, 1), 700);
        due("is there", x.handOf(0, 3), 1);
        due("firm 1 owes", x.owed(0, 1), 700);
        due("heads", x.firmOf(1, 0, 1), 1);
        due("heads", x.firmOf(0, 0, 1), 0);
        due("to none", x.go(0, NONE), 0);
        due("is at none", x.go(0, NONE), NONE);
        due("from none", x.go(0, 2), 0);
        x = passed("stay 10;");
        due("to none by itself", x.go(0, NONE), 1000);
        due("owes itself", x.handOf(0, 4), 1000);
        due("owed by hands", x.owed(0, NONE), 1000);
        due("owed by firm 1", x.owed(0, 1), 0);
        due("then to firm 1", x.go(0, 1), 0);
        due("still owes itself", x.handOf(0, 4), 1000);
    }

    private static void goOnceAndBehindPassing() {
        LearningPaid x = withFirms(3);
        rule(x, "stay 10;", 0);
        x.hand(25, 2, 1000, 0);
        x.course(0, 1, 20, 5, 1000, 0, 0, 2, 0);
        x.course(0, 1, 20, 5, 500, 2, 2, 3, 0);
        x.join(0, 0);
        x.months(1);
        due("left ahead of passing", x.go(0, 1), 0);
        due("marked", x.marked(0, 100), 1);
        due("not of firm 1", x.bound(0), 0);
        due("back to firm 0", x.go(0, 0), 0);
        due("now it is bound", x.bound(0), 1000);
        x.months(1);
        due("joins another", x.join(0, 1), 1);
        x.months(1);
        due("marked", x.marked(1, 100), 1);
        due("both", x.bound(0), 1000 * 8 / 10 + 500);
        due("both", x.go(0, 2), 1300);
        due("back", x.go(0, 0), 0);
        due("once", x.bound(0), 0);
        due("once", x.go(0, 2), 0);
        due("owed once", x.owed(0, 2), 1300);
        due("owed by firm 1", x.owed(0, 1), 0);
        x = withFirms(2);
        rule(x, "stay 10;", 0);
        x.hand(25, 2, 1000, 0);
        x.course(0, 1, 20, 5, 1000, 0, 0, 2, 0);
        x.join(0, 0);
        x.months(1);
        due("not passed", x.marked(0, 49), 0);
        due("not bound", x.bound(0), 0);
        due("nothing is owed", x.go(0, 1), 0);
        x = passed("stay 3;");
        x.months(10);
        due("its stay is over", x.go(0, 1), 0);
        rule(x, "stay 60;", 0);
        x.go(0, 0);
        due("that was its once", x.bound(0), 0);
    }

    private static long boundAt(String text, int month) {
        LearningPaid x = passed(text);
        go(x, month);
        return x.bound(0);
    }

    private static void stays() {
        due("without", boundAt("mark 1;", 1), 0);
        due("all of it", boundAt("stay 10;", 1), 1000);
        due("cut", boundAt("stay 7;", 3), 1000 * 5 / 7);
        due("the last month", boundAt("stay 10;", 10), 100);
        due("over", boundAt("stay 10;", 11), 0);
        due("long over", boundAt("stay 10;", 50), 0);
        due("60 at most", boundAt("stay 100;", 31), 500);
        due("0 at least", boundAt("stay 0-5;", 1), 0);
        due("heads ahead of it", boundAt("stay 2*heads;", 2), 500);
        due("by wages", boundAt("stay wages/100;", 6), 500);
        due("by hours", boundAt("stay hours;", 11), 500);
        due("by price", boundAt("stay price/50;", 11), 500);
        due("by age", boundAt("stay age-5;", 11), 500);
        due("by trade", boundAt("stay trade*20;", 11), 500);
        due("by month: LAST", boundAt("stay 20+month;", 11), 500);
        due("by lack", boundAt("stay 20+lack;", 11), 500);
        due("by paid of the year of LAST", boundAt("stay paid/6;levy 10;", 11), 1000 * (18 + 1 - 11) / 18);
        due("by paid of the year of LAST", boundAt("stay paid/6;levy 10;", 20), 1000 * (20 + 1 - 20) / 20);
        LearningPaid x = passed("stay 10;");
        x.months(5);
        rule(x, "stay 20;", 1);
        due("not by a rule from behind LAST", x.bound(0), 500);
        rule(x, "stay 20;", 0);
        due("by what is known now", x.bound(0), 750);
    }

    private static void join() {
        LearningPaid x = board();
        due("hand -1", x.join(-1, 0), NONE);
        due("hand 4", x.join(4, 0), NONE);
        due("course -1", x.join(0, -1), NONE);
        due("course 4", x.join(0, 4), NONE);
        due("without a firm", x.join(3, 0), NONE);
        due("lacks a paper", x.join(0, 1), NONE);
        due("none", x.about(6), 0);
        due("joined", x.join(0, 0), 0);
        due("a month in common", x.join(0, 2), NONE);
        due("the same again", x.join(0, 0), NONE);
        due("none in common", x.join(0, 3), 1);
        due("another hand", x.join(1, 0), 2);
        due("no seats left", x.join(2, 0), NONE);
        due("given up", x.giveUp(0), true);
        due("the seat is free", x.join(2, 0), 3);
        due("it is taken", x.join(0, 0), NONE);
        due("still the other", x.join(0, 2), NONE);
        due("given up too", x.giveUp(1), true);
        due("now none in common", x.join(0, 2), 4);
        x.months(3);
        due("first is the clock", x.join(1, 2), NONE);
        due("first is the clock", x.join(2, 2), NONE);
        x.months(1);
        due("first is below the clock", x.join(1, 2), NONE);
        due("first is the clock", x.join(1, 3), 5);
        due("has passed", x.marked(2, 50), 1);
        due("has the paper", x.join(1, 1), 6);
        due("has not passed", x.marked(3, 49), 0);
        due("has no paper", x.join(2, 1), NONE);
        x = board();
        x.join(0, 0);
        go(x, 4);
        x.marked(0, 60);
        x.paper(4, 1);
        due("has it in month 4", x.has(0, 4, 4), 1);
        due("not any more in FIRST", x.join(0, 1), NONE);
        x.paper(4, 2);
        due("still in FIRST", x.join(0, 1), 1);
        due("lost", x.joined(1, 7), 1600 * 40 / 160);
        x.wage(1, 999);
        x.course(0, 0, 1, 1, 1, 20, 20, 0, 0);
        due("joins", x.join(1, 4), 2);
        due("lost is cut", x.joined(2, 7), 6);
    }

    private static void joinAll() {
        LearningPaid x = withFirms(1);
        for (int i = 0; i < 60; i++) {
            x.hand(20, 0, 10, 0);
        }
        for (int i = 0; i < 7; i++) {
            x.course(0, 0, 10, 20, 10, 599 - i / 3, 599 - i / 3, 0, 0);
        }
        for (int i = 0; i < 120; i++) {
            due("joined", x.join(i % 60, i / 20), i);
        }
        due("joined 121", x.join(0, 6), NONE);
        due("given up", x.giveUp(0), true);
        due("still 120", x.join(0, 6), NONE);
        due("all", x.about(6), 120);
        due("has", x.has(59, 0, 599), 0);
        due("bound", x.bound(59), 0);
        due("goes", x.go(59, NONE), 0);
        due("way", x.way(58, 0, 0), 597);
        due("back", x.firmOf(0, 49, 3), 0);
        due("wages", x.firmOf(0, 49, 0), 590);
        due("trainer", x.trainer(0, 0), 0);
        due("seats", x.about(15), 0);
        due("the last", x.joined(119, 1), 5);
        for (int i = 7; i < 24; i++) {
            x.course(0, 0, 1, 1, 1, 9, 9, 1, 0);
        }
        due("way by one of 24", x.way(58, 1, 0), 9);
        x = withFirms(1);
        x.hand(20, 0, 10, 0);
        x.course(0, 0, 10, 20, 10, 599, 599, 0, 0);
        go(x, 600);
        due("at 600", x.join(0, 0), NONE);
    }

    private static void giveUp() {
        LearningPaid x = board();
        due("none such", x.giveUp(0), false);
        due("none such", x.giveUp(-1), false);
        x.join(0, 0);
        x.join(1, 0);
        due("no seats", x.about(10), 0);
        due("none such", x.giveUp(2), false);
        x.months(2);
        due("the clock is FIRST", x.giveUp(0), true);
        due("it was", x.giveUp(0), false);
        due("a seat", x.about(10), 1);
        due("told", x.joined(0, 6), 1);
        due("not the other", x.joined(1, 6), 0);
        x.months(1);
        due("the clock is above", x.giveUp(1), false);
        due("not given up", x.joined(1, 6), 0);
    }

    private static void marked() {
        LearningPaid x = board();
        x.join(0, 0);
        x.join(1, 0);
        x.join(2, 2);
        x.giveUp(2);
        go(x, 3);
        due("the clock is LAST", x.marked(0, 60), NONE);
        go(x, 4);
        due("none such", x.marked(-1, 60), NONE);
        due("none such", x.marked(3, 60), NONE);
        due("mark -1", x.marked(0, -1), NONE);
        due("mark 101", x.marked(0, 101), NONE);
        due("not marked", x.joined(0, 3), NONE);
        due("passed", x.marked(0, 50), 1);
        due("once", x.marked(0, 50), NONE);
        due("not passed", x.marked(1, 49), 0);
        due("once", x.marked(1, 100), NONE);
        go(x, 9);
        due("given up", x.marked(2, 60), NONE);
        rule(x, "mark 90;", 0);
        due("that stays", x.joined(0, 4), 1);
        due("it still has it", x.has(0, 4, 9), 1);
        x = board();
        rule(x, "mark 100;", 3);
        rule(x, "mark 0;", 4);
        x.join(0, 0);
        x.join(1, 0);
        x.join(2, 3);
        go(x, 5);
        due("by the rule of LAST", x.marked(0, 99), 0);
        due("mark 0 by a rule of LAST", x.marked(2, 0), 1);
        rule(x, "mark 100;", 4);
        rule(x, "mark 30;", 3);
        due("as known then", x.marked(1, 30), 1);
        due("that stays", x.joined(0, 4), 0);
    }

    private static void claim() {
        LearningPaid x = board();
        due("none such", x.claim(0), -5);
        due("none such", x.claim(-1), -5);
        x.join(0, 0);
        x.join(1, 0);
        x.join(2, 2);
        x.giveUp(2);
        due("not marked", x.claim(0), -1);
        due("given up", x.claim(2), -5);
        go(x, 4);
        x.marked(0, 60);
        x.marked(1, 40);
        due("back hours", x.claim(0), 80);
        due("was claimed", x.claim(0), -1);
        due("didn't pass", x.claim(1), -2);
        go(x, 20);
        due("didn't pass, and late", x.claim(1), -2);
        due("claimed, and late", x.claim(0), -1);
        x = passed("levy 9000; cap 9999;");
        go(x, 6);
        due("proof 6", x.claim(0), 20);
        x = passed("levy 9000; cap 9999;");
        go(x, 7);
        due("proved too late", x.claim(0), -3);
        rule(x, "proof 7;", 0);
        due("known now", x.claim(0), 20);
        x = passed("proof 0;");
        due("proof 0", x.claim(0), -3);
        x = passed("levy 0; cap 100;");
        due("the fund has less", x.claim(0), -4);
        due("it isn't claimed", x.joined(0, 5), NONE);
        rule(x, "back 0;", 0);
        due("nothing comes back", x.claim(0), 0);
        due("it is claimed", x.joined(0, 5), 0);
        due("was claimed", x.claim(0), -1);
        x = passed("levy 20; cap 100; back 60;");
        due("the fund has just that", x.fund(), 60);
        due("just what it has", x.claim(0), 60);
        due("nothing left", x.fund(), 0);
        x = passed("levy 20; cap 100; back 61;");
        due("one less", x.claim(0), -4);
        go(x, 7);
        due("late ahead of the fund", x.claim(0), -3);
        x = passed("levy 9000; cap 9999; back 1;");
        x.months(2);
        rule(x, "back 2;", 1);
        due("by the rule of LAST", x.claim(0), 1);
        x.appeal(0);
        rule(x, "back 3;", 0);
        due("as known now", x.claim(0), 3);
    }

    private static long backBy(String back) {
        LearningPaid x = withFirms(2);
        x.hand(25, 2, 1000, 0);
        x.hand(26, 3, 4000, 0);
        x.hand(27, 4, 500, 1);
        x.trade(6, 11, 1, 1);
        x.course(0, 6, 21, 5, 1001, 13, 14, 2, 0);
        rule(x, "levy 1001; cap 9999*9999;", 0);
        go(x, 12);
        x.join(0, 0);
        go(x, 15);
        x.marked(0, 90);
        x.go(0, 1);
        rule(x, "back " + back + "; levy 9999*100;", 0);
        x.months(1);
        x.trade(6, 13, 1, 1);
        return x.claim(0);
    }

    private static void claimNames() {
        due("wages now", backBy("wages"), 4000);
        due("heads now", backBy("heads"), 1);
        due("paid in the year of LAST", backBy("paid/10"), (3 * 1001 + 999900) / 10);
        due("month LAST", backBy("month"), 14);
        due("hours", backBy("hours"), 21);
        due("price", backBy("price"), 1001);
        due("age", backBy("age"), 25);
        due("trade of the course", backBy("trade"), 6);
        due("lack now", backBy("lack"), 13);
        due("all", backBy("wages+heads*month-hours+price*age+trade*lack"), 4000 + 14 - 21 + 25025 + 78);
        due("below 0", backBy("hours-price"), 0);
        due("most", backBy("9999*9999"), 1000000);
    }

    private static LearningPaid threePassed(String text) {
        LearningPaid x = withFirms(2);
        rule(x, text, 0);
        for (int i = 0; i < 5; i++) {
            x.hand(25, 2, 1000, i == 4 ? 1 : 0);
        }
        x.course(0, 1, 20, 5, 1000, 11, 11, 2, 0);
        x.course(0, 1, 20, 5, 1000, 12, 12, 2, 0);
        x.join(0, 0);
        x.join(1, 0);
        x.join(2, 0);
        x.join(3, 1);
        x.join(4, 0);
        go(x, 13);
        for (int i = 0; i < 5; i++) {
            x.marked(i, 60);
        }
        return x;
    }

    private static void claimCap() {
        LearningPaid x = threePassed("levy 900; back 70; cap 100;");
        due("first", x.claim(0), 70);
        due("what the cap leaves", x.claim(1), 30);
        due("nothing left", x.claim(2), 0);
        due("another year", x.claim(3), 70);
        due("another firm", x.claim(4), 70);
        due("of year 0", x.firmOf(0, 0, 3), 100);
        due("of year 1", x.firmOf(0, 1, 3), 70);
        due("appeal", x.appeal(0), true);
        due("less came back", x.claim(2), -1);
        x.appeal(2);
        due("the cap leaves it again", x.claim(2), 70);
        due("nothing left", x.claim(0), 0);
        x.appeal(0);
        rule(x, "cap 50;", 0);
        due("more came back than the cap", x.claim(0), 0);
        x = threePassed("levy 900; back 70; cap 0-5;");
        due("a cap below 0", x.claim(0), 0);
        x = threePassed("levy 5;back 70;");
        due("cap paid, year 0", x.claim(0), 60);
        due("cap paid, year 1", x.claim(3), 5);
        x = threePassed("levy 9000;back 1+month;cap month*wages/1000+heads;");
        due("cap by names", x.claim(0), 12);
        due("cap by names", x.claim(1), 12);
        due("cap by names", x.claim(2), 11 * 4 + 4 - 24 < 12 ? 0 : 12);
        due("cap by names", x.claim(4), 12);
    }

    private static void appeal() {
        LearningPaid x = board();
        due("none such", x.appeal(0), false);
        due("none such", x.appeal(-1), false);
        x.join(0, 0);
        due("not claimed", x.appeal(0), false);
        go(x, 4);
        x.marked(0, 60);
        due("not claimed", x.appeal(0), false);
        long fund = x.fund();
        due("claim", x.claim(0), 80);
        due("claimed", x.about(7), 1);
        due("appeal", x.appeal(0), true);
        due("in the fund again", x.fund(), fund);
        due("not claimed any more", x.about(7), 0);
        due("nothing came back", x.joined(0, 5), NONE);
        due("not of the firm", x.firmOf(0, 0, 3), 0);
        due("twice", x.appeal(0), false);
        due("claimed again", x.claim(0), 80);
        due("appeal again", x.appeal(0), true);
        go(x, 10);
        due("too late for it again", x.claim(0), -3);
    }

    private static void joined() {
        LearningPaid x = board();
        due("none such", x.joined(0, 0), NONE);
        x.join(2, 2);
        x.join(1, 0);
        long[] want = {1, 0, 0, NONE, 0, NONE, 0, 400, 3};
        for (int what = 0; what < 9; what++) {
            due("joined 1, " + what, x.joined(1, what), want[what]);
        }
        due("joined 0, 0", x.joined(0, 0), 2);
        due("joined 0, 1", x.joined(0, 1), 2);
        due("joined 0, 2", x.joined(0, 2), 1);
        due("joined 0, 8", x.joined(0, 8), 0);
        go(x, 4);
        x.marked(1, 70);
        x.claim(1);
        x.go(1, 2);
        due("the firm of it", x.joined(1, 2), 0);
        due("mark", x.joined(1, 3), 70);
        due("passed", x.joined(1, 4), 1);
        due("back", x.joined(1, 5), 80);
        x.months(1);
        x.marked(0, 20);
        due("mark", x.joined(0, 3), 20);
        due("not passed", x.joined(0, 4), 0);
        due("what -1", x.joined(1, -1), NONE);
        due("what 9", x.joined(1, 9), NONE);
        due("joined 2", x.joined(2, 0), NONE);
        due("joined -1", x.joined(-1, 0), NONE);
    }

    private static void has() {
        LearningPaid x = board();
        due("hand -1", x.has(-1, 0, 0), NONE);
        due("hand 4", x.has(4, 0, 0), NONE);
        due("paper -1", x.has(0, -1, 0), NONE);
        due("paper 8", x.has(0, 8, 0), NONE);
        due("month -1", x.has(0, 0, -1), NONE);
        due("month 600", x.has(0, 0, 600), NONE);
        due("not yet", x.has(0, 4, 599), 0);
        x.join(0, 0);
        x.join(1, 0);
        go(x, 4);
        due("not marked", x.has(0, 4, 4), 0);
        x.marked(0, 60);
        x.marked(1, 20);
        due("in LAST", x.has(0, 4, 3), 0);
        due("behind LAST", x.has(0, 4, 4), 1);
        due("for ever", x.has(0, 4, 599), 1);
        due("another paper", x.has(0, 3, 4), 0);
        due("another hand", x.has(1, 4, 4), 0);
        x.paper(4, 3);
        due("up to LIFE", x.has(0, 4, 6), 1);
        due("beyond LIFE", x.has(0, 4, 7), 0);
        x.course(0, 0, 1, 1, 1, 6, 6, 4, 0);
        due("join", x.join(0, 4), 2);
        go(x, 7);
        due("lapsed", x.has(0, 4, 7), 0);
        due("marked", x.marked(2, 60), 1);
        due("anew", x.has(0, 4, 9), 1);
        due("lapsed again", x.has(0, 4, 10), 0);
        x.course(0, 0, 1, 1, 1, 7, 7, 0, 0);
        x.course(0, 0, 1, 1, 1, 8, 8, 7, 0);
        x.join(1, 5);
        x.join(1, 6);
        go(x, 9);
        x.marked(3, 60);
        x.marked(4, 60);
        due("paper 0", x.has(1, 0, 9), 1);
        due("paper 7", x.has(1, 7, 9), 1);
        due("paper 6", x.has(1, 6, 9), 0);
    }

    private static void bound() {
        LearningPaid x = passed("stay 10;");
        due("hand -1", x.bound(-1), NONE);
        due("hand 1", x.bound(1), NONE);
        due("bound", x.bound(0), 1000);
        due("bound again", x.bound(0), 1000);
        x.go(0, NONE);
        due("without a firm", x.bound(0), 0);
        x.hand(20, 0, 0, NONE);
        due("without a firm", x.bound(1), 0);
    }

    private static void owed() {
        LearningPaid x = passed("stay 10;");
        x.hand(20, 0, 10, 0);
        x.course(0, 0, 1, 5, 90, 1, 1, 0, 0);
        x.join(0, 1);
        x.join(1, 1);
        x.months(1);
        x.marked(1, 90);
        x.marked(2, 90);
        due("one goes", x.go(0, 2), 900 + 90);
        due("another goes", x.go(1, 2), 90);
        due("together", x.owed(0, 2), 1080);
        due("by none", x.owed(0, NONE), 0);
        due("the other way", x.owed(2, 0), 0);
        due("by itself", x.owed(0, 0), 0);
        due("to -1", x.owed(-1, 0), NONE);
        due("to 3", x.owed(3, 0), NONE);
        due("by -2", x.owed(0, -2), NONE);
        due("by 3", x.owed(0, 3), NONE);
    }

    private static void months() {
        LearningPaid x = board();
        due("n 0", x.months(0), NONE);
        due("n -1", x.months(-1), NONE);
        due("n 61", x.months(61), NONE);
        due("none went by", x.fund(), 0);
        due("n 1", x.months(1), 1);
        due("n 60", x.months(60), 61);
        due("all of them", x.fund(), 61 * 34);
        go(x, 590);
        due("beyond 600", x.months(11), NONE);
        due("none went by", x.about(0), 590);
        due("to 600", x.months(10), 600);
        due("beyond 600", x.months(1), NONE);
        due("all of them", x.fund(), 600 * 34);
    }

    private static void levies() {
        LearningPaid x = board();
        rule(x, "levy wages/10; member heads>1;", 2);
        rule(x, "levy 7;", 4);
        x.months(6);
        due("by rules from months", x.firmOf(0, 0, 2), 24 + 24 + 240 + 240 + 7 + 7);
        due("no member", x.firmOf(1, 0, 2), 10 + 10);
        due("no hands", x.firmOf(2, 0, 2), 0);
        due("fund", x.fund(), 542 + 20);
        rule(x, "levy 1; member 1=1;", 0);
        due("not for months gone by", x.firmOf(2, 0, 2), 0);
        x.months(1);
        due("the greatest from still holds", x.firmOf(0, 0, 2), 549);
        x = withFirms(1);
        rule(x, "levy 100-paid;", 0);
        x.months(12);
        due("by what is paid in the year", x.firmOf(0, 0, 2), 100);
        x.months(1);
        due("anew in another year", x.firmOf(0, 1, 2), 100);
        x = withFirms(1);
        rule(x, "levy paid+1;", 0);
        x.months(5);
        due("twice as much each", x.fund(), 31);
        x = withFirms(1);
        rule(x, "levy 10*month;", 0);
        x.months(4);
        x.firm();
        x.months(1);
        due("by month", x.firmOf(0, 0, 2), 100);
        due("of a new firm", x.firmOf(1, 0, 2), 40);
        x = withFirms(1);
        rule(x, "member wages#0 ;levy 5;", 0);
        x.months(1);
        due("no wages", x.fund(), 0);
        x.hand(20, 0, 1, 0);
        x.months(1);
        due("wages", x.fund(), 5);
        x.go(0, NONE);
        x.months(1);
        due("no wages again", x.fund(), 5);
    }

    private static void firmOf() {
        LearningPaid x = board();
        due("firm -1", x.firmOf(-1, 0, 0), NONE);
        due("firm 3", x.firmOf(3, 0, 0), NONE);
        due("year -1", x.firmOf(0, -1, 0), NONE);
        due("year 50", x.firmOf(0, 50, 0), NONE);
        due("what -1", x.firmOf(0, 0, -1), NONE);
        due("what 4", x.firmOf(0, 0, 4), NONE);
        due("wages", x.firmOf(0, 49, 0), 2400);
        due("heads", x.firmOf(0, 49, 1), 2);
        due("wages of none", x.firmOf(2, 0, 0), 0);
        due("paid of no month", x.firmOf(0, 0, 2), 0);
        x.join(0, 0);
        x.months(30);
        due("paid in year 0", x.firmOf(0, 0, 2), 12 * 24);
        due("paid in year 1", x.firmOf(0, 1, 2), 12 * 24);
        due("paid in year 2", x.firmOf(0, 2, 2), 6 * 24);
        due("paid in year 3", x.firmOf(0, 3, 2), 0);
        due("paid in year 49", x.firmOf(0, 49, 2), 0);
        x.firm();
        due("paid by a new firm", x.firmOf(3, 2, 2), 0);
        x = threePassed("levy 900; back 70; cap 1000;");
        x.claim(0);
        x.claim(1);
        x.claim(3);
        due("back of year 0", x.firmOf(0, 0, 3), 140);
        due("back of year 1", x.firmOf(0, 1, 3), 70);
        due("back of year 2", x.firmOf(0, 2, 3), 0);
        due("back of another", x.firmOf(1, 0, 3), 0);
        go(x, 600);
        due("paid in the last year", x.firmOf(0, 49, 2), 900 * 12);
    }

    private static void handOf() {
        LearningPaid x = board();
        long[] want = {40, 3, 800, 0, 0};
        for (int what = 0; what < 5; what++) {
            due("hand 1, " + what, x.handOf(1, what), want[what]);
        }
        due("no firm", x.handOf(3, 3), NONE);
        due("what -1", x.handOf(0, -1), NONE);
        due("what 5", x.handOf(0, 5), NONE);
        due("hand -1", x.handOf(-1, 0), NONE);
        due("hand 4", x.handOf(4, 0), NONE);
    }

    private static void trainer() {
        LearningPaid x = board();
        x.join(0, 0);
        x.join(1, 0);
        x.join(2, 2);
        due("none marked", x.trainer(3, 0), 0);
        go(x, 5);
        x.marked(0, 60);
        x.marked(1, 30);
        x.marked(2, 77);
        due("marked", x.trainer(3, 0), 2);
        due("passed", x.trainer(3, 1), 1);
        due("marks", x.trainer(3, 2), 90);
        due("of another", x.trainer(0, 2), 77);
        due("of one without", x.trainer(7, 0), 0);
        due("trainer -1", x.trainer(-1, 0), NONE);
        due("trainer 8", x.trainer(8, 0), NONE);
        due("what -1", x.trainer(3, -1), NONE);
        due("what 3", x.trainer(3, 3), NONE);
    }

    private static void way(LearningPaid x, int hand, int paper, int last, int count) {
        due("way to " + paper + ", 0", x.way(hand, paper, 0), last);
        due("way to " + paper + ", 1", x.way(hand, paper, 1), count);
    }

    private static void way() {
        LearningPaid x = withFirms(1);
        x.hand(20, 0, 10, NONE);
        due("hand -1", x.way(-1, 0, 0), NONE);
        due("hand 1", x.way(1, 0, 0), NONE);
        due("paper -1", x.way(0, -1, 0), NONE);
        due("paper 8", x.way(0, 8, 0), NONE);
        due("what -1", x.way(0, 0, -1), NONE);
        due("what 2", x.way(0, 0, 2), NONE);
        way(x, 0, 0, NONE, NONE);
        x.course(0, 0, 1, 1, 1, 2, 9, 0, 0);
        way(x, 0, 0, 9, 1);
        x.course(0, 0, 1, 1, 1, 4, 8, 0, 2);
        x.course(0, 0, 1, 1, 1, 1, 3, 1, 0);
        way(x, 0, 0, 8, 2);
        x.course(0, 0, 1, 1, 1, 4, 8, 0, 4);
        x.course(0, 0, 1, 1, 1, 0, 0, 2, 0);
        way(x, 0, 0, 8, 2);
        x.course(0, 0, 1, 1, 1, 4, 8, 0, 0);
        way(x, 0, 0, 8, 1);
        // FIRST of each must be above LAST of the one ahead.
        x.course(0, 0, 1, 1, 1, 8, 10, 3, 1);
        way(x, 0, 3, NONE, NONE);
        x.course(0, 0, 1, 1, 1, 9, 11, 3, 1);
        way(x, 0, 3, 11, 2);
        x.course(0, 0, 1, 1, 1, 12, 12, 4, 1 | 2 | 4 | 8);
        way(x, 0, 4, 12, 5);
        x.course(0, 0, 1, 1, 1, 13, 13, 5, 32);
        way(x, 0, 5, NONE, NONE);
        x.months(1);
        way(x, 0, 2, NONE, NONE);
        way(x, 0, 4, NONE, NONE);
        x.months(3);
        way(x, 0, 0, 8, 1);
        x.months(1);
        way(x, 0, 0, NONE, NONE);
        x.course(0, 0, 1, 1, 1, 5, 5, 0, 0);
        way(x, 0, 0, 5, 1);
        x.course(0, 0, 1, 1, 1, 599, 599, 7, 0);
        go(x, 599);
        way(x, 0, 7, 599, 1);
        go(x, 600);
        way(x, 0, 7, NONE, NONE);
    }

    private static void wayByHeld() {
        LearningPaid x = withFirms(1);
        x.hand(20, 0, 10, 0);
        x.hand(20, 0, 10, 0);
        x.course(0, 0, 1, 1, 1, 0, 0, 0, 0);
        x.course(0, 0, 1, 1, 1, 5, 7, 1, 1);
        x.course(0, 0, 1, 1, 1, 4, 4, 0, 0);
        x.course(0, 0, 1, 1, 1, 20, 21, 2, 1 | 2);
        x.join(0, 0);
        x.months(1);
        way(x, 0, 0, 4, 1);
        x.marked(0, 80);
        way(x, 0, 0, 1, 0);
        way(x, 0, 1, 7, 1);
        way(x, 0, 2, 21, 2);
        way(x, 1, 0, 4, 1);
        way(x, 1, 1, 7, 2);
        x.paper(0, 5);
        way(x, 0, 1, 7, 1);
        way(x, 0, 2, 21, 3);
        x.paper(0, 4);
        way(x, 0, 1, 7, 2);
        // What comes on the way doesn't lapse, and a paper that lapses may come anew on it.
        x.paper(0, 1);
        x.paper(1, 1);
        way(x, 0, 2, 21, 3);
        x.months(1);
        way(x, 0, 0, 4, 1);
        // SEATS, and what it JOINED, aside.
        x.join(1, 2);
        way(x, 0, 0, 4, 1);
        way(x, 1, 0, 4, 1);
        x.paper(0, 0);
        way(x, 0, 0, 2, 0);
        go(x, 600);
        way(x, 0, 0, 600, 0);
        // What isn't one, where there is a way and what it has.
        x = withFirms(1);
        x.hand(20, 0, 10, 0);
        x.course(0, 0, 1, 1, 1, 0, 0, 3, 0);
        x.course(0, 0, 1, 1, 1, 5, 5, 0, 0);
        x.join(0, 0);
        x.months(1);
        x.marked(0, 90);
        way(x, 0, 3, 1, 0);
        way(x, 0, 0, 5, 1);
        for (int wrong : new int[] {-1, 2, Integer.MAX_VALUE, Integer.MIN_VALUE}) {
            due("what " + wrong, x.way(0, 3, wrong), NONE);
            due("what " + wrong, x.way(0, 0, wrong), NONE);
        }
        for (int wrong : new int[] {-1, 8, 32, 35, -29}) {
            due("paper " + wrong, x.way(0, wrong, 0), NONE);
        }
        due("hand 1", x.way(1, 0, 0), NONE);
        due("hand -1", x.way(-1, 0, 0), NONE);
        x = withFirms(1);
        x.hand(20, 0, 10, 0);
        x.course(0, 0, 1, 1, 1, 5, 5, 0, 2);
        way(x, 0, 0, NONE, NONE);
        // Of ways that are over in the same month that with the fewest courses, whichever papers come on it.
        x = withFirms(1);
        x.hand(20, 0, 10, 0);
        x.course(0, 0, 1, 1, 1, 9, 9, 7, 1 | 2);
        x.course(0, 0, 1, 1, 1, 9, 9, 7, 4);
        x.course(0, 0, 1, 1, 1, 0, 0, 0, 0);
        x.course(0, 0, 1, 1, 1, 1, 1, 1, 0);
        x.course(0, 0, 1, 1, 1, 3, 3, 2, 0);
        way(x, 0, 7, 9, 2);
        x.course(0, 0, 1, 1, 1, 8, 8, 7, 1 | 2 | 4);
        way(x, 0, 7, 8, 4);
    }

    private static void places(LearningPaid x, int coins, int worth, int cost, int... chosen) {
        due("worth for " + coins, x.places(coins, NONE), worth);
        due("cost for " + coins, x.places(coins, -2), cost);
        for (int trade = 0; trade < 8; trade++) {
            due("of trade " + trade + " for " + coins, x.places(coins, trade),
                trade < chosen.length ? chosen[trade] : 0);
        }
    }

    private static void places() {
        LearningPaid x = new LearningPaid();
        due("coins -1", x.places(-1, 0), -3);
        due("coins 2001", x.places(2001, 0), -3);
        due("what -3", x.places(0, -3), -3);
        due("what 8", x.places(0, 8), -3);
        places(x, 2000, 0, 0);
        x.trade(0, 2, 3, 5);
        x.trade(1, 1, 4, 7);
        places(x, 0, 0, 0);
        places(x, 2, 0, 0);
        places(x, 3, 5, 3, 1);
        places(x, 4, 7, 4, 0, 1);
        places(x, 6, 10, 6, 2);
        places(x, 7, 12, 7, 1, 1);
        places(x, 2000, 17, 10, 2, 1);
        // Of like WORTH the least COST, then the fewest of TRADE 0, then of 1.
        x = new LearningPaid();
        x.trade(0, 1, 10, 6);
        x.trade(1, 3, 3, 2);
        places(x, 10, 6, 9, 0, 3);
        x.trade(1, 3, 4, 2);
        places(x, 10, 6, 10, 1);
        x = new LearningPaid();
        x.trade(0, 3, 2, 2);
        x.trade(1, 3, 2, 2);
        x.trade(2, 3, 4, 4);
        places(x, 6, 6, 6, 0, 1, 1);
        places(x, 12, 12, 12, 0, 0, 3);
        places(x, 14, 14, 14, 0, 1, 3);
        places(x, 20, 20, 20, 1, 3, 3);
        x = new LearningPaid();
        x.trade(3, 50, 1, 0);
        places(x, 100, 0, 0);
        x.trade(7, 50, 1, 100);
        places(x, 2000, 5000, 50, 0, 0, 0, 0, 0, 0, 0, 50);
        places(x, 49, 4900, 49, 0, 0, 0, 0, 0, 0, 0, 49);
        for (int trade = 0; trade < 8; trade++) {
            x.trade(trade, 50, 5, 100);
        }
        places(x, 2000, 40000, 2000, 50, 50, 50, 50, 50, 50, 50, 50);
        places(x, 1999, 39900, 1995, 49, 50, 50, 50, 50, 50, 50, 50);
        x.trade(0, 50, 200, 1);
        x.trade(1, 50, 199, 1);
        places(x, 1999, 30002, 1898, 0, 2, 50, 50, 50, 50, 50, 50);
    }

    private static void proves() {
        LearningPaid x = new LearningPaid();
        due("nothing lacked", x.proves(7, 5, 3), 35 / 3);
        x.trade(0, 2, 3, 5);
        x.trade(1, 1, 4, 7);
        due("5 / 3", x.proves(7, 5, 3), 12);
        due("0 / 1", x.proves(7, 0, 1), 17);
        due("1 / 1", x.proves(7, 1, 1), 7 + 2 * 2 + 3);
        due("no coins", x.proves(0, 1, 1), 7);
        due("coins -1", x.proves(-1, 1, 1), NONE);
        due("coins 2001", x.proves(2001, 1, 1), NONE);
        due("a -1", x.proves(7, -1, 1), NONE);
        due("a 1001", x.proves(7, 1001, 1), NONE);
        due("b 0", x.proves(7, 1, 0), NONE);
        due("b 1001", x.proves(7, 1, 1001), NONE);
        due("most", x.proves(2000, 1000, 1000), 2000 + 2 * 2 + 3);
        for (int trade = 0; trade < 8; trade++) {
            x.trade(trade, 50, 1, 100);
        }
        due("most of all", x.proves(2000, 1, 1000), (2000 + 8 * 50 * (100000L - 1)) / 1000);
        x = new LearningPaid();
        x.trade(0, 2, 10, 1);
        due("none is worth it", x.proves(7, 1, 1), 7);
        x.trade(1, 3, 10, 10);
        due("just worth it", x.proves(7, 1, 1), 7);
    }

    private static void result() {
        LearningPaid x = withFirms(2);
        due("firm -1", x.result(-1, 0), false);
        due("firm 2", x.result(2, 0), false);
        due("v -1001", x.result(0, -1001), false);
        due("v 1001", x.result(0, 1001), false);
        due("0 at first", x.trial(3, 1, 0), 0);
        due("v -1000", x.result(0, -1000), true);
        due("v 1000", x.result(1, 1000), true);
        due("effect", x.trial(3, 1, 0), -2000);
        due("effect", x.trial(3, 2, 0), 2000);
    }

    private static void trial() {
        LearningPaid x = withFirms(14);
        int[] results = {10, 8, 1, 3, -4, 9, 12, 0, -7, 5, 6, 2, 1000, -1000};
        for (int firm = 0; firm < 14; firm++) {
            x.result(firm, results[firm]);
        }
        due("effect", x.trial(15, 3, 0), 28);
        due("like", x.trial(15, 3, 1), 2);
        due("choices", x.trial(15, 3, 2), 6);
        due("not beyond chance", x.trial(15, 3, 3), 0);
        due("the others", x.trial(15, 12, 0), -28);
        due("like the others", x.trial(15, 12, 1), 2);
        due("one of four", x.trial(15, 1, 0), 10 * 3 - 12);
        due("like: 18, -10, 18, 10 off", x.trial(15, 1, 1), 2);
        due("one of three, bits apart", x.trial(1 | 4 | 32, 4, 0), 2 - 19);
        due("two of three", x.trial(1 | 4 | 32, 33, 0), 19 - 2);
        due("choices of three", x.trial(1 | 4 | 32, 33, 2), 3);
        due("twelve firms", x.trial(0xfff, 0x3f, 2), 924);
        due("one firm", x.trial(1, 1, 0), -1000000);
        due("no firm", x.trial(0, 0, 0), -1000000);
        due("thirteen firms", x.trial(0x1fff, 1, 0), -1000000);
        due("none treated", x.trial(3, 0, 0), -1000000);
        due("all treated", x.trial(3, 3, 0), -1000000);
        due("treated not of these", x.trial(3, 4, 0), -1000000);
        due("treated not of these", x.trial(3, 5, 0), -1000000);
        due("a firm that isn't", x.trial(1 | 1 << 14, 1, 0), -1000000);
        due("a firm that can't be", x.trial(1 | 1 << 31, 1, 0), -1000000);
        due("what -1", x.trial(3, 1, -1), -1000000);
        due("what 4", x.trial(3, 1, 4), -1000000);
        x = withFirms(6);
        for (int firm = 0; firm < 6; firm++) {
            x.result(firm, firm < 3 ? 10 : firm - 5);
        }
        due("three of six", x.trial(63, 7, 2), 20);
        due("both ends", x.trial(63, 7, 1), 2);
        due("2 of 20 is not beyond chance", x.trial(63, 7, 3), 0);
        x.result(0, 11);
        due("one of six", x.trial(63, 1, 3), 0);
        x = withFirms(12);
        for (int firm = 0; firm < 12; firm++) {
            x.result(firm, firm < 2 ? 500 : firm);
        }
        due("2 of 12: choices", x.trial(0xfff, 3, 2), 66);
        due("2 of 12: like", x.trial(0xfff, 3, 1), 1);
        due("2 of 12: beyond chance", x.trial(0xfff, 3, 3), 1);
        x.result(1, 11);
        due("like: those with firm 0 and one of two", x.trial(0xfff, 3, 1), 2);
        due("2 of 66", x.trial(0xfff, 3, 3), 1);
        x.result(2, 11);
        x.result(3, 11);
        due("like: four", x.trial(0xfff, 3, 1), 4);
        due("4 of 66 is not beyond chance", x.trial(0xfff, 3, 3), 0);
        x = withFirms(7);
        x.result(0, 40);
        x.result(1, 40);
        x.result(2, 40);
        due("1 of 35: like", x.trial(127, 7, 1), 1);
        due("1 of 35", x.trial(127, 7, 3), 1);
        x = withFirms(6);
        x.result(0, 40);
        x.result(1, 40);
        x.result(2, 40);
        due("20 choices, 2 like", x.trial(63, 7, 1), 2);
        x = withFirms(4);
        due("all are like 0", x.trial(15, 3, 1), 6);
        // 6 of 120 is just beyond chance: the first, and two of four that are alike.
        x = withFirms(10);
        for (int firm = 0; firm < 5; firm++) {
            x.result(firm, firm == 0 ? 100 : 10);
        }
        due("6 of 120: like", x.trial(0x3ff, 7, 1), 6);
        due("6 of 120: choices", x.trial(0x3ff, 7, 2), 120);
        due("6 of 120", x.trial(0x3ff, 7, 3), 1);
        int[] many = {-4, 2, -7, 2, -5, 2, -3, 5, 3, 5, 2, 9};
        x = withFirms(12);
        for (int firm = 0; firm < 12; firm++) {
            x.result(firm, many[firm]);
        }
        due("48 of 924: like", x.trial(0xfff, 0x3f, 1), 48);
        due("48 of 924 is just not beyond chance", x.trial(0xfff, 0x3f, 3), 0);
    }

    private static void drawn() {
        LearningPaid x = withFirms(1);
        rule(x, "levy 9000; cap 9999;", 0);
        x.course(0, 0, 10, 20, 10, 0, 0, 0, 0);
        for (int i = 0; i < 8; i++) {
            x.hand(20, 0, 10, 0);
            x.join(i, 0);
        }
        x.months(1);
        due("none claimed", x.drawn(1, 7, 0), NONE);
        int[] claimed = {1, 2, 4, 5, 7};
        for (int i = 0; i < 8; i++) {
            x.marked(i, 90);
        }
        for (int joined : new int[] {7, 2, 4, 1, 5, 3}) {
            x.claim(joined);
        }
        x.appeal(3);
        for (int seed : new int[] {0, 1, 7, -1, 123456789, Integer.MIN_VALUE, Integer.MAX_VALUE}) {
            for (int n = 1; n <= 5; n++) {
                int[] want = claimed.clone();
                long s = seed & 0xffffffffL;
                for (int i = 0; i < n; i++) {
                    s = (s * 1103515245L + 12345) & 0xffffffffL;
                    int other = i + (int) ((s >> 16) % (5 - i));
                    int kept = want[i];
                    want[i] = want[other];
                    want[other] = kept;
                }
                for (int i = 0; i < n; i++) {
                    due("drawn " + n + " by " + seed + ", " + i, x.drawn(n, seed, i), want[i]);
                }
            }
        }
        due("n 0", x.drawn(0, 7, 0), NONE);
        due("n 6", x.drawn(6, 7, 0), NONE);
        due("n -1", x.drawn(-1, 7, -2), NONE);
        due("i -1", x.drawn(5, 7, -1), NONE);
        due("i 3 of 3", x.drawn(3, 7, 3), NONE);
    }

    private static void tried() {
        LearningPaid x = threePassed("levy 900; back 70; cap 100; member month>0;");
        x.claim(0);
        x.claim(1);
        due("no such text", x.tried(1, 0), NONE);
        due("text -1", x.tried(-1, 0), NONE);
        due("what -1", x.tried(0, -1), NONE);
        due("what 2", x.tried(0, 2), NONE);
        due("as it was", x.tried(0, 0), x.fund() + 100);
        due("without cap", x.tried(0, 1), 140);
        Checks.text(x, "");
        due("levies without", x.tried(1, 0), 13 * (40 + 10));
        due("back without", x.tried(1, 1), 40);
        Checks.text(x, "levy wages + heads + month;");
        due("by wages, heads, month", x.tried(2, 0), 13 * (5000 + 5) + 2 * 78);
        Checks.text(x, "levy paid; member heads=1;");
        due("by paid as it truly was", x.tried(3, 0), 900 * (1 + 2 + 3 + 4 + 5 + 6 + 7 + 8 + 9 + 10));
        Checks.text(x, "back wages + heads + paid + month + hours + price + age + trade + lack;");
        long each = 4000 + 4 + 9900 + 11 + 20 + 1000 + 25 + 1;
        due("back by all names", x.tried(4, 1), 2 * each);
        x.go(0, 1);
        due("of the firm as it is now", x.tried(4, 1), 2 * (each - 1001));
        x.trade(1, 30, 1, 1);
        due("lack as it is now", x.tried(4, 1), 2 * (each - 1001 + 30));
        due("wages as they were", x.tried(2, 0), 13 * (5000 + 5) + 2 * 78);
        x.firm();
        x.months(1);
        Checks.text(x, "levy 10; mark 100; proof 0; back -5;");
        due("firms that were there then", x.tried(5, 0), 10 * (13 * 2 + 3));
        due("back below 0", x.tried(5, 1), 0);
        Checks.text(x, "levy 9999*9999; back 9999*9999;");
        due("levies at most", x.tried(6, 0), 1000000L * (13 * 2 + 3));
        due("back at most", x.tried(6, 1), 2000000L);
        x.appeal(0);
        due("of those claimed now", x.tried(6, 1), 1000000L);
        x = withFirms(20);
        Checks.text(x, "levy 9999*9999;");
        due("no months", x.tried(0, 0), 0);
        go(x, 600);
        due("all months", x.tried(0, 0), 1000000L * 600 * 20);
    }

    private static void sheet() {
        LearningPaid x = new LearningPaid();
        due("year -1", x.sheet(-1), false);
        due("year 50", x.sheet(50), false);
        due("none was taken", x.check(0), NONE);
        due("year 0", x.sheet(0), true);
        due("nothing is other", x.check(0), 0);
        due("year 49", x.sheet(49), true);
        due("year 50", x.sheet(50), false);
        due("still taken", x.check(0), 0);
    }

    private static void alter() {
        LearningPaid x = board();
        due("none was taken", x.alter(0, true, 1), false);
        x.sheet(0);
        due("firm -1", x.alter(-1, true, 1), false);
        due("firm 20", x.alter(20, true, 1), false);
        due("mask 0", x.alter(0, true, 0), false);
        due("nothing is other", x.check(0), 0);
        due("firm 19", x.alter(19, false, Integer.MIN_VALUE), true);
        due("one is other", x.check(0), 1);
        due("which firm", x.check(1), 19);
        due("paid", x.check(2), 0);
        due("altered back", x.alter(19, false, Integer.MIN_VALUE), true);
        due("nothing is other", x.check(0), 0);
        due("firm 0, back", x.alter(0, true, 3), true);
        due("which firm", x.check(1), 0);
        due("back", x.check(2), 1);
        due("by one of two bits", x.alter(0, true, 1), true);
        due("still other", x.check(0), 1);
        due("by the other", x.alter(0, true, 2), true);
        due("nothing is other", x.check(0), 0);
        x.months(1);
        x.sheet(0);
        x.alter(0, false, 7);
        x.alter(0, false, 2);
        due("still other", x.check(1), 0);
        x.alter(0, false, 5);
        due("nothing is other", x.check(0), 0);
    }

    private static void check() {
        LearningPaid x = board();
        x.join(0, 0);
        go(x, 4);
        x.marked(0, 60);
        due("none was taken", x.check(0), NONE);
        due("none was taken", x.check(2), NONE);
        x.sheet(0);
        due("what -1", x.check(-1), NONE);
        due("what 3", x.check(3), NONE);
        due("nothing", x.check(0), 0);
        due("no firm", x.check(1), NONE);
        due("no place", x.check(2), NONE);
        x.claim(0);
        due("by a claim", x.check(0), 1);
        due("of firm 0", x.check(1), 0);
        due("back", x.check(2), 1);
        due("what -1 of one", x.check(-1), NONE);
        due("what 3 of one", x.check(3), NONE);
        x.months(1);
        due("by levies of two firms too", x.check(0), 3);
        due("no one firm", x.check(1), NONE);
        due("no one place", x.check(2), NONE);
        x.sheet(0);
        due("taken anew", x.check(0), 0);
        x.appeal(0);
        due("by an appeal", x.check(2), 1);
        x.alter(0, true, 80);
        due("altered to the same", x.check(0), 0);
        x.alter(0, false, 7);
        x.alter(0, true, 7);
        due("both of a firm", x.check(0), 2);
        due("no one firm", x.check(1), NONE);
        go(x, 12);
        x.sheet(1);
        x.months(1);
        x.sheet(1);
        due("of year 1", x.check(0), 0);
        x.months(1);
        due("of year 1", x.check(0), 2);
    }

    private static void image() {
        LearningPaid x = board();
        x.months(2);
        due("image", x.image(), 2);
        x.months(3);
        due("back", x.back(), 2);
        x.months(1);
        due("another", x.image(), 3);
        x.months(1);
        due("back", x.back(), 3);
        due("it stays", x.back(), 3);
        due("and is as it was", x.fund(), 3 * 34);
    }

    private static void boardOfBack(LearningPaid x) {
        for (int i = 0; i < 3; i++) {
            x.firm();
        }
        x.hand(30, 2, 1600, 0);
        x.hand(40, 3, 800, 0);
        x.hand(20, 2, 1000, 1);
        x.hand(50, 1, 100, NONE);
        x.course(3, 2, 80, 2, 600, 2, 3, 4, 0);
        x.course(3, 2, 40, 5, 300, 5, 6, 5, 16);
        x.course(0, 1, 10, 5, 100, 3, 4, 1, 0);
        x.course(1, 1, 10, 5, 100, 4, 4, 2, 0);
        rule(x, "stay 20; levy 100;", 0);
        x.trade(0, 3, 2, 5);
        x.result(0, 7);
        x.join(0, 0);
        x.join(1, 2);
        go(x, 4);
        x.marked(0, 60);
        x.paper(4, 9);
        x.image();
    }

    private static void muchElse(LearningPaid x) {
        boardOfBack(x);
        x.trade(0, 9, 1, 9);
        x.result(0, 9);
        x.paper(4, 1);
        x.wage(0, 5);
        x.claim(0);
        x.go(0, 1);
        x.go(1, NONE);
        x.months(5);
        x.marked(1, 90);
        x.firm();
        x.hand(20, 0, 50, 3);
        x.course(5, 5, 5, 5, 5, 20, 20, 5, 0);
        x.join(2, 4);
        rule(x, "levy 7; stay 3;", 0);
        x.months(1);
        Checks.tape(x, "levy ?");
        x.text();
        Checks.tape(x, "levy");
        x.sheet(0);
        x.alter(7, true, 1);
    }

    private static void muchAnew(LearningPaid x) {
        muchElse(x);
        due("back", x.back(), 4);
        due("but the tape", x.about(8), 4);
        due("but the latest fault", x.fault(0), 1);
        due("but its place", x.fault(1), 5);
        due("but the sheet: paid of four, back of one, and what was altered", x.check(0), 6);
        x.months(1);
        due("months anew", x.firmOf(0, 0, 2), 500);
        due("a firm anew", x.firm(), 3);
        due("that paid nothing", x.firmOf(3, 0, 2), 0);
        due("levies of then", x.tried(0, 0), 100 * 3 * 5);
        x.end(0);
        due("a text anew", Checks.text(x, "levy 3;"), 1);
        due("a ruling anew", x.ruling(1, 0), 2);
        x.months(1);
        due("by it", x.firmOf(3, 0, 2), 3);
        due("joined anew", x.join(1, 3), NONE);
    }

    private static void back() {
        State then = State.held(PromiseTests::boardOfBack);
        Checks.isTrue("much is other", !State.held(PromiseTests::muchElse).otherThan(then).isEmpty());
        State back = State.held(y -> {
            muchElse(y);
            y.back();
        });
        Checks.isTrue("all is so again, but " + back.otherThan(then), back.otherThan(then).isEmpty());
        back = State.held(y -> {
            muchAnew(y);
            y.back();
        });
        Checks.isTrue("all is so once more, but " + back.otherThan(then), back.otherThan(then).isEmpty());
        LearningPaid x;
        x = withFirms(20);
        rule(x, "stay 10;", 0);
        x.hand(20, 0, 0, 0);
        x.hand(20, 0, 0, 0);
        x.course(0, 0, 1, 3, 100, 0, 0, 0, 0);
        x.course(0, 0, 1, 3, 100, 9, 9, 0, 0);
        x.join(0, 0);
        x.join(1, 0);
        x.months(1);
        x.marked(0, 60);
        x.marked(1, 60);
        x.join(0, 1);
        x.image();
        due("by the last firm", x.go(0, 19), 100);
        due("by itself", x.go(1, NONE), 100);
        x.giveUp(2);
        x.back();
        due("nothing owed by the last firm", x.owed(0, 19), 0);
        due("nor by itself", x.handOf(1, 4), 0);
        due("not given up", x.joined(2, 6), 0);
        due("bound as ahead of it", x.bound(0), 100);
        x.go(0, 19);
        x.go(1, NONE);
        x.giveUp(2);
        x.image();
        x.back();
        due("owed by the last firm", x.owed(0, 19), 100);
        due("by itself", x.handOf(1, 4), 100);
        due("given up", x.joined(2, 6), 1);
        // What other months left behind doesn't count for a firm that wasn't there then.
        x = withFirms(1);
        rule(x, "levy 5;", 0);
        x.image();
        x.firm();
        x.months(3);
        due("paid", x.firmOf(1, 0, 2), 15);
        x.back();
        x.months(3);
        x.firm();
        due("was not there then", x.firmOf(1, 0, 2), 0);
        rule(x, "levy 1+paid;", 0);
        x.months(1);
        due("by paid", x.firmOf(1, 0, 2), 1);
        due("tried", x.tried(1, 0), 1 + 6 + 11 + 16 + 1);
    }

    private static void about() {
        LearningPaid x = board();
        x.join(0, 0);
        x.join(1, 0);
        x.giveUp(1);
        go(x, 4);
        x.marked(0, 60);
        x.claim(0);
        Checks.text(x, "levy 1;");
        x.ruling(0, 5);
        x.ruling(0, 6);
        Checks.tape(x, "abc");
        long[] want = {4, 3, 4, 4, 1, 2, 2, 1, 3, NONE, 1, 5, 5, 5, NONE};
        for (int what = 0; what < want.length; what++) {
            due("about " + what, x.about(what), want[what]);
        }
        due("about -1", x.about(-1), NONE);
        due("about 33", x.about(33), NONE);
        due("about 34", x.about(34), NONE);
        due("about the least", x.about(Integer.MIN_VALUE), NONE);
        due("about the most", x.about(Integer.MAX_VALUE), NONE);
    }

    private static void fund() {
        LearningPaid x = withFirms(20);
        due("at first", x.fund(), 0);
        rule(x, "levy 9999*9999;", 0);
        go(x, 600);
        due("beyond 32 bits", x.fund(), 1000000L * 20 * 600);
        x = passed("levy 50; cap 999;");
        due("levied", x.fund(), 150);
        x.claim(0);
        due("less what came back", x.fund(), 130);
        x.go(0, 1);
        due("what firms owe one another aside", x.fund(), 130);
    }
}
