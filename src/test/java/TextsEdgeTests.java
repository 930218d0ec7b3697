import java.util.ArrayList;
import java.util.List;

/** Each sentence of promises 8 to 11, and of part II, that names a boundary case of the tape and of TEXTS. */
public final class TextsEdgeTests extends Edges {
    private static final int BLANKS = 0x20202020;

    public static void main(String[] args) {
        feed();
        feedToTheLast();
        end();
        text();
        eleventhText();
        fault();
        blanks();
        words();
        longest();
        clauses();
        cannotStand();
        isNone();
        numbers();
        open();
        secondTime();
        ofFirmsAlone();
        firstAndLeast();
        Checks.finish("TextsEdgeTests");
    }

    private static String shown(String text) {
        return text.replace("\n", "\\n");
    }

    private static void fault(String text, int what, int place) {
        LearningPaid x = new LearningPaid();
        due("text <" + shown(text) + ">", Checks.text(x, text), what == 0 ? 0 : NONE);
        due("fault of <" + shown(text) + ">", x.fault(0), what);
        due("place in <" + shown(text) + ">", x.fault(1), place);
        due("texts with <" + shown(text) + ">", x.about(4), what == 0 ? 1 : 0);
        due("bytes behind <" + shown(text) + ">", x.about(8), 0);
    }

    private static void good(String text) {
        fault(text, 0, NONE);
    }

    // ---- Promise 8: feed ----

    private static int word(String four) {
        return four.charAt(0) << 24 | four.charAt(1) << 16 | four.charAt(2) << 8 | four.charAt(3);
    }

    private static int feed(LearningPaid x, String twenty) {
        return x.feed(word(twenty), word(twenty.substring(4)), word(twenty.substring(8)), word(twenty.substring(12)),
            word(twenty.substring(16)));
    }

    private static void feed() {
        sentence("8: Twenty bytes come behind the tape: how many it has");
        LearningPaid x = new LearningPaid();
        due("feed", x.feed(0, 0, 0, 0, 0), 20);
        due("feed", x.feed(-1, -1, -1, -1, -1), 40);
        due("bytes", x.about(8), 40);
        x.end(13);
        due("behind 13", x.feed(1, 1, 1, 1, 1), 33);
        x.end(0);
        due("feed", feed(x, "levy                "), 20);
        due("feed", feed(x, "1                   "), 40);
        due("feed", feed(x, ";                   "), 60);
        due("in this order", x.text(), 0);
        sentence("8: the highest of a first");
        for (int place = 0; place < 20; place++) {
            for (int b : new int[] {1, 33, 127, 128, 254, 255}) {
                int[] v = {BLANKS, BLANKS, BLANKS, BLANKS, BLANKS};
                int shift = 24 - 8 * (place % 4);
                v[place / 4] = v[place / 4] & ~(255 << shift) | b << shift;
                x = new LearningPaid();
                x.feed(v[0], v[1], v[2], v[3], v[4]);
                due("byte " + b + " at " + place, x.text(), NONE);
                due("byte " + b + " at " + place, x.fault(0), 1);
                due("byte " + b + " at " + place, x.fault(1), place);
            }
        }
        x = new LearningPaid();
        due("all of them", feed(x, "mark 7;proof 3;cap 2"), 20);
        due("and what is behind", feed(x, ";levy 8;             "), 40);
        due("in order", x.text(), 0);
        x = new LearningPaid();
        feed(x, "levy 10000+1+2+3+4+5");
        x.text();
        due("a number of five digits", x.fault(0), 2);
        due("at", x.fault(1), 5);
    }

    private static void feedToTheLast() {
        sentence("8: NONE, and none come, if there would be more than 300");
        LearningPaid x = new LearningPaid();
        feed(x, "levy                ");
        for (int i = 2; i <= 14; i++) {
            due("feed", x.feed(BLANKS, BLANKS, BLANKS, BLANKS, BLANKS), 20 * i);
        }
        due("300", feed(x, "                  7;"), 300);
        due("320", feed(x, ";;;;;;;;;;;;;;;;;;;;"), NONE);
        due("300 stay", x.about(8), 300);
        due("as they were", x.text(), 0);
        x = new LearningPaid();
        for (int i = 1; i <= 15; i++) {
            feed(x, "levy 7;             ");
        }
        due("281 of them", x.end(281), 281);
        due("301", feed(x, ";;;;;;;;;;;;;;;;;;;;"), NONE);
        due("281 stay", x.about(8), 281);
        due("280 of them", x.end(280), 280);
        due("300", feed(x, ";;;;;;;;;;;;;;;;;;;;"), 300);
        due("299 of them", x.end(299), 299);
        due("319", feed(x, ";;;;;;;;;;;;;;;;;;;;"), NONE);
        due("299 stay", x.about(8), 299);
        x.text();
        due("room again, as the tape is empty", feed(x, ";;;;;;;;;;;;;;;;;;;;"), 20);
    }

    // ---- Promise 9: end ----

    private static void end() {
        sentence("9: The tape has its first n bytes alone: n");
        LearningPaid x = new LearningPaid();
        feed(x, "levy 1234;mark 2;!!!");
        due("20 of 20", x.end(20), 20);
        due("20", x.about(8), 20);
        due("17 of 20", x.end(17), 17);
        due("17", x.about(8), 17);
        due("the first are there", x.text(), 0);
        for (int n = 0; n <= 20; n++) {
            x = new LearningPaid();
            feed(x, "member 1=1;levy wage");
            due("end(" + n + ")", x.end(n), n);
            due("bytes", x.about(8), n);
        }
        x = new LearningPaid();
        feed(x, "levy 1234;mark 2;!!!");
        x.end(7);
        feed(x, ";                   ");
        due("what was behind is gone", x.about(8), 27);
        due("levy 12;", x.text(), 0);
        due("0 of 0", x.end(0), 0);
        sentence("9: NONE, and nothing is done, if it has not so many, or n is below 0");
        x = new LearningPaid();
        feed(x, "levy 1234;mark 2;;;;");
        x.end(17);
        for (int n : new int[] {18, 20, 21, 300, 301, MOST, -1, -17, LEAST}) {
            due("end(" + n + ") of 17", x.end(n), NONE);
            due("17 stay", x.about(8), 17);
        }
        due("as they were", x.text(), 0);
        due("1 of 0", x.end(1), NONE);
        due("-1 of 0", x.end(-1), NONE);
    }

    // ---- Promise 10: text ----

    private static void text() {
        sentence("10: its number; II: TEXTS 0 .. 9");
        LearningPaid x = new LearningPaid();
        for (int i = 0; i < 10; i++) {
            due("text", Checks.text(x, "levy " + i + ";"), i);
            due("texts", x.about(4), i + 1);
            if (i < 9) {
                due("one with a FAULT has no number", Checks.text(x, "levy;"), NONE);
                due("texts", x.about(4), i + 1);
            }
        }
        sentence("10: The tape (empty then) is a TEXT");
        x = new LearningPaid();
        Checks.text(x, "levy 5;");
        due("empty behind one", x.about(8), 0);
        Checks.text(x, "levy 5");
        due("empty behind one with a FAULT", x.about(8), 0);
        due("an empty one is a TEXT", x.text(), 1);
        due("of no sort", x.ruling(1, 0), 1);
        for (int sort = 0; sort < 7; sort++) {
            due("sort " + sort, x.ruled(sort, 0, 0), NONE);
        }
        sentence("II: of up to 300 bytes");
        due("bytes", ("levy " + "1+".repeat(146) + "1 ;").length(), 300);
        x = withFirms(1);
        rule(x, "levy " + "1+".repeat(146) + "1 ;", 0);
        x.months(1);
        due("all of it counts", x.fund(), 147);
        fault("levy " + "1+".repeat(147) + ";", 1, 299);
        fault("levy " + "1+".repeat(147) + "1", 1, 300);
        fault(" ".repeat(299) + ";", 1, 299);
        good(" ".repeat(300));
    }

    private static void eleventhText() {
        sentence("10: NONE: (the tape stays) there are 10");
        LearningPaid x = withFirms(1);
        for (int i = 0; i < 9; i++) {
            Checks.text(x, "levy " + i + ";");
        }
        x.image();
        x.months(1);
        Checks.text(x, "levy;");
        due("the tenth", Checks.text(x, "levy 9;"), 9);
        Checks.tape(x, "levy 70;");
        due("the 11th", x.text(), NONE);
        due("the tape stays", x.about(8), 8);
        due("10 stay", x.about(4), 10);
        due("nothing was read: fault", x.fault(0), 0);
        due("nothing was read: place", x.fault(1), NONE);
        x.end(7);
        due("one with a FAULT", x.text(), NONE);
        due("the tape stays", x.about(8), 7);
        due("nothing was read: fault", x.fault(0), 0);
        due("nothing was read: place", x.fault(1), NONE);
        due("the tenth is as it was", x.tried(9, 0), 9);
        x.back();
        due("nine again", x.about(4), 9);
        due("behind the tape", feed(x, ";                   "), 27);
        due("now it is the tenth", x.text(), 9);
        x.months(1);
        due("by it", x.tried(9, 0), 70);
    }

    // ---- Promise 11: fault ----

    private static void fault() {
        sentence("11: NONE ahead of any");
        LearningPaid x = new LearningPaid();
        due("0", x.fault(0), NONE);
        due("1", x.fault(1), NONE);
        Checks.tape(x, "levy;");
        due("fed, but not read: 0", x.fault(0), NONE);
        due("fed, but not read: 1", x.fault(1), NONE);
        sentence("11: Of the latest TEXT that was read: 0 its FAULT, 1 its place");
        x.text();
        due("0", x.fault(0), 1);
        due("1", x.fault(1), 4);
        x.feed(0, 0, 0, 0, 0);
        x.end(0);
        due("stays: 0", x.fault(0), 1);
        due("stays: 1", x.fault(1), 4);
        Checks.text(x, "levy 1; mark 101;");
        due("another: 0", x.fault(0), 2);
        due("another: 1", x.fault(1), 13);
        sentence("11: (0 without), (NONE without)");
        Checks.text(x, "levy 1;");
        due("0", x.fault(0), 0);
        due("1", x.fault(1), NONE);
        x.text();
        due("of an empty one: 0", x.fault(0), 0);
        due("of an empty one: 1", x.fault(1), NONE);
        sentence("11: NONE for others");
        Checks.text(x, "!");
        due("1 at 0: 0", x.fault(0), 1);
        due("1 at 0: 1", x.fault(1), 0);
        for (int what : new int[] {-1, 2, 3, LEAST, MOST}) {
            due("fault(" + what + ")", x.fault(what), NONE);
        }
    }

    // ---- TOKENS ----

    private static void blanks() {
        sentence("II: TOKENS, blanks (32, 10) aside");
        good("");
        good(" ");
        good("\n");
        good(" \n \n\n  ");
        good("  levy\n1\n;\n\n");
        good("levy 1;");
        good("levy1;");
        good("levy1;mark2;proof3;");
        good("member1=1or2=2and not3<4;");
        good("member not\nnot 1 = 1 or\n2 = 2 and 3 <= 4 ; back min ( 1 , - 2 ) * ( 3 / 4 ) ;");
        fault("levy 1;\n\n !", 1, 10);
        fault("\n\n!", 1, 2);
        sentence("II: blanks (32, 10) and no others");
        for (int b : new int[] {0, 1, 9, 11, 12, 13, 31, 33, 127, 160, 138, 255}) {
            fault("" + (char) b, 1, 0);
            fault("levy" + (char) b + "1;", 1, 4);
            fault("levy 1;" + (char) b, 1, 7);
        }
        sentence("II: blanks part TOKENS");
        fault("le vy 1;", 1, 0);
        fault("levy 1 2;", 1, 7);
        fault("levy 1\n2;", 1, 7);
        fault("levy wa ges;", 1, 5);
        fault("member 1 < = 2;", 1, 11);
        fault("member 1 > = 2;", 1, 11);
        fault("member 1 < \n= 2;", 1, 12);
    }

    private static void words() {
        sentence("II: letters a .. z, A .. Z one behind the other (one TOKEN)");
        fault("levymark 1;", 1, 0);
        fault("levywages;", 1, 0);
        fault("levy wagesheads;", 1, 5);
        fault("levy minmax(1,2);", 1, 5);
        fault("member notnot 1=1;", 1, 7);
        fault("member 1=1 orand 1=1;", 1, 11);
        for (String word : new String[] {"a", "z", "A", "Z", "azAZ"}) {
            fault("levy " + word + " ;", 1, 5);
            fault("levywages" + word, 1, 0);
        }
        for (String word : new String[] {"Levy", "LEVY", "levY", "evy", "lev", "levyy", "zlevy", "levyZ", "levyA", "Alevy"}) {
            fault(word + " 1;", 1, 0);
        }
        String[] names = {"wages", "heads", "paid", "month", "hours", "price", "age", "trade", "lack"};
        for (String name : names) {
            good("back " + name + ";");
            good("back(" + name + ");");
            fault("back " + name.toUpperCase() + ";", 1, 5);
            fault("back " + name.substring(1) + ";", 1, 5);
            fault("back " + name.substring(0, name.length() - 1) + ";", 1, 5);
            fault("back " + name + "z;", 1, 5);
            fault("back A" + name + ";", 1, 5);
            fault("back " + name.substring(0, 1) + " " + name.substring(1) + ";", 1, 5);
        }
        for (String word : new String[] {"member", "levy", "back", "stay", "cap", "proof", "mark"}) {
            String rest = word.equals("member") ? " 1=1;" : " 1;";
            good(word + rest);
            fault(word.toUpperCase() + rest, 1, 0);
            fault(word.substring(1) + rest, 1, 0);
            fault(word.substring(0, word.length() - 1) + rest, 1, 0);
            fault(word + "s" + rest, 1, 0);
            fault("x" + word + rest, 1, 0);
        }
        for (String word : new String[] {"Or", "OR", "o", "orr", "And", "an", "andd", "Not"}) {
            fault("member 1=1 " + word + " 1=1;", 1, 11);
        }
        for (String word : new String[] {"Not", "NOT", "no", "nott"}) {
            fault("member " + word + " 1=1;", 1, 7);
        }
        for (String word : new String[] {"Min", "mi", "minn", "MAX", "ma", "maxx"}) {
            fault("levy " + word + "(1,2);", 1, 5);
        }
        sentence("II: letters and digits are TOKENS of their own");
        fault("levy w1;", 1, 5);
        fault("levy wages1;", 1, 10);
        fault("levy 1wages;", 1, 6);
        fault("l3vy 1;", 1, 0);
        fault("levy 1e3;", 1, 6);
        fault("levy 0x10;", 1, 6);
        good("levy2*wages;");
        sentence("II: a .. z, A .. Z, 0 .. 9 and no more");
        for (char none : new char[] {'@', '[', '`', '{', ':', '.', '_', '!', '?', '&', '|', '%', '^', '~', '\'', '"',
            '$', '\\', ']', '}', (char) 170, (char) 192, (char) 223, (char) 229, (char) 233, (char) 255}) {
            fault("" + none, 1, 0);
            fault("levy 1" + none + ";", 1, 6);
            fault("levy" + none + " 1;", 1, 4);
        }
    }

    private static void longest() {
        sentence("II: <= >= < > = # (the longest)");
        for (String sign : new String[] {"<=", ">=", "<", ">", "=", "#"}) {
            good("member 1" + sign + "2;");
            fault("member 1" + sign + ";", 1, 8 + sign.length());
            fault("member " + sign + "1;", 1, 7);
        }
        fault("member 1<==2;", 1, 10);
        fault("member 1>==2;", 1, 10);
        fault("member 1==2;", 1, 9);
        fault("member 1=<2;", 1, 9);
        fault("member 1=>2;", 1, 9);
        fault("member 1<>2;", 1, 9);
        fault("member 1><2;", 1, 9);
        fault("member 1<<=2;", 1, 9);
        fault("member 1##2;", 1, 9);
        fault("member 1#=2;", 1, 9);
        fault("member 1<=", 1, 10);
        fault("member 1<", 1, 9);
        good("member 1<-2;");
        good("member 1<=-2;");
    }

    // ---- CLAUSES ----

    private static void clauses() {
        sentence("II: {CLAUSE}");
        good("");
        good("levy 1;");
        good("member 1=1;levy 1;back 1;stay 1;cap 1;proof 1;mark 1;");
        good("mark 1;proof 1;cap 1;stay 1;back 1;levy 1;member 1=1;");
        sentence("II: proof NUMBER ; (0 .. 60)");
        good("proof 0;");
        good("proof 60;");
        good("proof 00060;");
        fault("proof 61;", 2, 6);
        fault("proof 100;", 2, 6);
        fault("proof 9999;", 2, 6);
        fault("proof 10000;", 2, 6);
        sentence("II: mark NUMBER ; (0 .. 100)");
        good("mark 0;");
        good("mark 61;");
        good("mark 100;");
        good("mark 000100;");
        fault("mark 101;", 2, 5);
        fault("mark 9999;", 2, 5);
        fault("mark 10000;", 2, 5);
        sentence("II: NUMBERS, 0 .. 9999, in a SUM");
        for (String clause : new String[] {"levy ", "back ", "stay ", "cap ", "member 1=", "levy 1-", "levy -(", "levy min(",
            "levy max(1,"}) {
            int at = clause.length();
            fault(clause + "10000;", 2, at);
            fault(clause + "9999", 1, at + 4);
        }
        good("levy 0;back 9999;stay 101;cap 9999;member 0<9999;");
        fault("member 10000=1;", 2, 7);
    }

    /** What can stand behind what: of each beginning the TOKENS that can, all others are FAULTS there. */
    private static void cannotStand() {
        sentence("II: 1 it can't stand there, or is none (of the end at the length)");
        String ones = " 5 wages heads paid month ( - min max ";
        String all = ones + "hours price age trade lack ";
        String clauses = " member levy back stay cap proof mark ";
        String more = " + - * / ";
        String signs = " < <= > >= = # ";
        follows("", clauses + "END ");
        follows("levy ", ones);
        follows("cap ", ones);
        follows("back ", all);
        follows("stay ", all);
        follows("member ", ones + "not ");
        follows("member not ", ones + "not ");
        follows("proof ", " 5 ");
        follows("mark ", " 5 ");
        follows("proof 5 ", " ; ");
        follows("mark 5 ", " ; ");
        follows("proof 5 ; ", clauses.replace(" proof ", " ") + "END ");
        follows("levy 1 ", more + "; ");
        follows("levy wages ", more + "; ");
        follows("back age ", more + "; ");
        follows("levy 1 ; ", clauses.replace(" levy ", " ") + "END ");
        follows("levy 1 + ", ones);
        follows("levy 1 - ", ones);
        follows("levy 1 * ", ones);
        follows("levy 1 / ", ones);
        follows("levy 1 + 2 * 3 ", more + "; ");
        follows("levy ( ", ones);
        follows("levy ( 1 ", more + ") ");
        follows("levy ( 1 ) ", more + "; ");
        follows("levy - ", ones);
        follows("levy - 1 ", more + "; ");
        follows("levy - - ", ones);
        follows("levy min ", " ( ");
        follows("levy max ", " ( ");
        follows("levy min ( ", ones);
        follows("levy min ( 1 ", more + ", ");
        follows("levy min ( 1 , ", ones);
        follows("levy max ( 1 , 2 ", more + ") ");
        follows("levy max ( 1 , 2 ) ", more + "; ");
        follows("levy ( min ( 1 , 2 ) ", more + ") ");
        follows("member 1 ", more + signs);
        follows("member ( 1 ", more + ") ");
        follows("member ( 1 ) ", more + signs);
        for (String sign : new String[] {"<", "<=", ">", ">=", "=", "#"}) {
            follows("member 1 " + sign + " ", ones);
        }
        follows("member 1 < 2 ", more + "; or and ");
        follows("member not 1 < 2 ", more + "; or and ");
        follows("member 1 < 2 or ", ones + "not ");
        follows("member 1 < 2 and ", ones + "not ");
        follows("member 1 < 2 or 3 = 4 ", more + "; or and ");
        follows("member 1 < 2 and 3 = 4 ", more + "; or and ");
        follows("member 1 < 2 and 3 = 4 or 5 ", more + signs);
        follows("member 1 < 2 ; ", clauses.replace(" member ", " ") + "END ");
    }

    private static final String[] TOKENS = {"member", "levy", "back", "stay", "cap", "proof", "mark", "or", "and", "not",
        "min", "max", "wages", "heads", "paid", "month", "hours", "price", "age", "trade", "lack", "5", "<=", ">=", "<", ">",
        "=", "#", "+", "-", "*", "/", "(", ")", ",", ";", "x", "sum", "!", "&", "END"};

    /** The names that are FAULT 5 in member, levy or cap, and a sort for the second time (4), are looked at elsewhere. */
    private static void follows(String begun, String can) {
        String first = begun.isEmpty() ? "" : begun.substring(0, begun.indexOf(' '));
        List<String> aside = new ArrayList<>(List.of(first));
        if ((first.equals("member") || first.equals("levy") || first.equals("cap")) && can.contains(" wages ")) {
            aside.addAll(List.of("hours", "price", "age", "trade", "lack"));
        }
        for (String token : TOKENS) {
            if (aside.contains(token) && !begun.endsWith("; ") && !can.contains(" wages ") || !aside.contains(token)) {
                follows(begun, token, can.contains(" " + token + " "));
            }
        }
    }

    private static void follows(String begun, String token, boolean can) {
        LearningPaid x = new LearningPaid();
        String text = begun + (token.equals("END") ? "" : token);
        Checks.text(x, text);
        if (can && token.equals("END")) {
            due("fault of <" + text + ">", x.fault(0), 0);
        } else if (can) {
            due("place in <" + text + "> is not there", x.fault(1) == begun.length(), false);
        } else {
            due("fault of <" + text + ">", x.fault(0), 1);
            due("place in <" + text + ">", x.fault(1), begun.length());
        }
    }

    private static void isNone() {
        sentence("II: 1 .. or is none, at its first byte");
        fault("levy 1;  xyz 5;", 1, 9);
        fault("levy  xyz;", 1, 6);
        fault("levy\n\nxyz;", 1, 6);
        fault("levy 1 +  abcdefghijklmnopqrstuvwxyz;", 1, 10);
        fault("levy " + "z".repeat(295), 1, 5);
        sentence("II: (of the end at the length)");
        fault("levy", 1, 4);
        fault("levy ", 1, 5);
        fault("levy   \n", 1, 8);
        fault("levy 1", 1, 6);
        fault("levy 1  ", 1, 8);
        fault("levy (1", 1, 7);
        fault("member", 1, 6);
        fault("proof 5", 1, 7);
        fault("levy min", 1, 8);
        fault("member 1=1 or", 1, 13);
        fault("levy 1;mark", 1, 11);
    }

    // ---- FAULTS 2 to 5 ----

    private static void numbers() {
        sentence("II: 2 a NUMBER that isn't one of those told");
        fault("levy 9999;", 0, NONE);
        fault("levy 10000;", 2, 5);
        fault("levy 10001;", 2, 5);
        fault("levy 99999;", 2, 5);
        fault("levy 0000009999;", 0, NONE);
        fault("levy 0000010000;", 2, 5);
        for (String wraps : new String[] {"2147483647", "2147483648", "2147483649", "4294967295", "4294967296",
            "4294967301", "9223372036854775807", "9223372036854775808", "18446744073709551616", "18446744073709551621",
            "340282366920938463463374607431768211461"}) {
            fault("levy " + wraps + ";", 2, 5);
            fault("proof " + wraps + ";", 2, 6);
            fault("mark " + wraps + ";", 2, 5);
        }
        fault("levy 1 + 2 * ( 12345 );", 2, 15);
        fault("levy " + "9".repeat(290) + ";", 2, 5);
        good("levy " + "0".repeat(290) + "1;");
    }

    private static void open() {
        sentence("II: 3 the 9th of ( not and - (of one ONE) that are open around one another (at it)");
        good("levy " + "(".repeat(8) + "1" + ")".repeat(8) + ";");
        fault("levy " + "(".repeat(9) + "1" + ")".repeat(9) + ";", 3, 13);
        good("levy " + "-".repeat(8) + "1;");
        fault("levy " + "-".repeat(9) + "1;", 3, 13);
        fault("levy  " + "- ".repeat(9) + "1;", 3, 22);
        good("member " + "not ".repeat(8) + "1=1;");
        fault("member " + "not ".repeat(9) + "1=1;", 3, 39);
        good("member not not not -(-(-1)) = 1;");
        good("member not not not not -(-(1)) = 1;");
        fault("member not not not not -(-(-1)) = 1;", 3, 27);
        fault("member not not not not not -(-(1)) = 1;", 3, 30);
        fault("member not not not not not not - - (1) = 1;", 3, 35);
        fault("member not not not not not not (((1))) = 1;", 3, 33);
        fault("member not not not not not not 1 = (((1)));", 3, 37);
        sentence("II: 3 .. that are open around one another: what is closed counts no more");
        good("levy ((((((((1))))))))+((((((((1))))))))*((((((((1))))))))/((((((((1))))))));");
        good("levy --------1+--------1*--------1-------1;");
        good("levy (((((((1)+(1))-(1))*-1)/-1)+-(1)));");
        good("levy ((((((((1)+1)+1)+1)+1)+1)+1)+1);");
        good("levy -1+-1+-1+-1+-1+-1+-1+-1+-1+-1;");
        good("levy 1-1-1-1-1-1-1-1-1-1-1;");
        good("levy (((((((1-1-1-1-1)))))));");
        good("levy (((((((-1-1-1*-1)))))));");
        good("levy ((((((((1-1))))))));");
        fault("levy ((((((((1-(1)))))))));", 3, 15);
        fault("levy ((((((((1--1))))))));", 3, 15);
        fault("levy ((((((((-1))))))));", 3, 13);
        good("member not 1=1 and not 1=1 or not 1=1 and not 1=1 and not 1=1 or not 1=1 and not 1=1 or not 1=1 and not 1=1;");
        good("member not not not not not not not not 1=1 and not not not not not not not not 1=1;");
        good("member not not not not not not not (1)=(1) and (1)=(1);");
        good("member ((((((((1)))))))) = ((((((((1)))))))) or not 1 = -((((((1))))));");
        good("levy ((((((((1))))))));cap ((((((((1))))))));back --------1;stay --------1;");
        fault("levy ((((((((1))))))));cap (((((((((1)))))))));", 3, 35);
        sentence("II: 3 .. in one TEXT alone");
        LearningPaid x = new LearningPaid();
        for (int i = 0; i < 3; i++) {
            due("too deep", Checks.text(x, "levy " + "(".repeat(12)), NONE);
            due("too deep", x.fault(0), 3);
            due("at", x.fault(1), 13);
            due("not closed", Checks.text(x, "levy ((((1;"), NONE);
            due("not closed", x.fault(1), 10);
            due("eight", Checks.text(x, "levy ((((((((1))))))));"), i);
        }
        sentence("II: - of one ONE: it is open no longer than that ONE");
        good("levy -------(1);");
        fault("levy --------(1);", 3, 13);
        good("levy -------(1)*(1)-(1);");
        good("levy --------1*(1)+((((((((1))))))));");
        sentence("II: 3 .. min and max at their (");
        for (String name : new String[] {"min", "max"}) {
            good("levy (((((((" + name + "(1,2))))))));");
            fault("levy ((((((((" + name + "(1,2)))))))));", 3, 16);
            fault("levy ((((((((" + name + "  (1,2)))))))));", 3, 18);
            fault("levy ((((((((" + name + " 1", 1, 17);
            good("levy (((((((" + name + "(1+2,3*4))))))));");
            fault("levy (((((((" + name + "(-1,2))))))));", 3, 16);
            fault("levy (((((((" + name + "((1),2))))))));", 3, 16);
            fault("levy (((((((" + name + "(1,(2)))))))));", 3, 18);
            fault("levy (((((((" + name + "(1," + name + "(2,3)))))))));", 3, 21);
            String nested = "1";
            for (int i = 0; i < 8; i++) {
                nested = name + "(1," + nested + ")";
            }
            good("levy " + nested + ";");
            fault("levy " + name + "(1," + nested + ");", 3, 5 + 8 * 6 + 3);
            String left = "1";
            for (int i = 0; i < 8; i++) {
                left = name + "(" + left + ",1)";
            }
            good("levy " + left + ";");
            fault("levy " + name + "(" + left + ",1);", 3, 5 + 8 * 4 + 3);
            good("levy " + left + "+" + nested + ";");
        }
    }

    private static void secondTime() {
        sentence("II: 4 a CLAUSE of a sort for the second time (member too; at its first TOKEN)");
        String[] sorts = {"member", "levy", "back", "stay", "cap", "proof", "mark"};
        for (String sort : sorts) {
            String one = sort + (sort.equals("member") ? " 1=1;" : " 1;");
            fault(one + one, 4, one.length());
            fault(one + "  " + sort, 4, one.length() + 2);
            fault(one + sort + " !", 4, one.length());
            StringBuilder others = new StringBuilder(one);
            for (String other : sorts) {
                if (!other.equals(sort)) {
                    others.append(other).append(other.equals("member") ? " 1=1;" : " 1;");
                }
            }
            good(others.toString());
            fault(others + one, 4, others.length());
        }
        sentence("II: 4 .. in one TEXT alone");
        LearningPaid x = new LearningPaid();
        due("one", Checks.text(x, "levy 1;"), 0);
        due("another", Checks.text(x, "levy 1;"), 1);
        due("a faulty one", Checks.text(x, "mark 1;mark"), NONE);
        due("another", Checks.text(x, "mark 1;"), 2);
    }

    private static void ofFirmsAlone() {
        sentence("II: 5 age, trade, lack, hours, price in member, levy or cap (at it)");
        for (String name : new String[] {"age", "trade", "lack", "hours", "price"}) {
            fault("levy " + name + ";", 5, 5);
            fault("cap " + name + ";", 5, 4);
            fault("member " + name + "=1;", 5, 7);
            fault("member 1=" + name + ";", 5, 9);
            fault("member 1=1 and not 1<(" + name + ");", 5, 22);
            fault("levy min(1,  " + name + ");", 5, 13);
            fault("levy wages*-" + name + ";", 5, 12);
            fault("back " + name + ";levy " + name + ";", 5, name.length() + 11);
            fault("levy 1;cap 1+" + name + ";", 5, 13);
        }
        sentence("II: 5 .. and in no others");
        good("back age+trade+lack+hours+price;");
        good("stay age*trade/lack-hours+price;");
        good("levy 1;back age;");
        good("member 1=1;stay lack;cap 1;back price;");
        sentence("II: 5 .. and no other names");
        good("levy wages+heads+paid+month;cap wages+heads+paid+month;member wages+heads=paid+month;");
        good("back wages+heads+paid+month;stay wages+heads+paid+month;");
    }

    private static void firstAndLeast() {
        sentence("II: FAULTS, the first as TOKENS are come to");
        fault("levy age 10000;", 5, 5);
        fault("levy 10000 age;", 2, 5);
        fault("levy 10000 ((((((((( ;", 2, 5);
        fault("levy ((((((((( 10000;", 3, 13);
        fault("levy ((((((((( age;", 3, 13);
        fault("levy age ! ;", 5, 5);
        fault("levy ! age;", 1, 5);
        fault("levy 1;levy age;", 4, 7);
        fault("levy age;levy 1;", 5, 5);
        fault("proof 61;proof 1;", 2, 6);
        fault("proof 1;proof 61;", 4, 8);
        fault("levy (1;levy 1;", 1, 7);
        fault("mark 5 levy age", 1, 7);
        sentence("II: FAULTS .. of one the least");
        fault("levy 1 10000;", 1, 7);
        fault("proof 5 61;", 1, 8);
        fault("10000", 1, 0);
        fault("levy wages 10000;", 1, 11);
        fault("levy ((((((((1(", 1, 14);
        fault("levy ((((((((not", 1, 13);
        fault("member not not not not not not not not 1 not", 1, 41);
        fault("levy 1 levy 2;", 1, 7);
        fault("levy levy 2;", 1, 5);
        fault("levy 1;mark levy;", 1, 12);
        fault("levy 1 age;", 1, 7);
        fault("proof age;", 1, 6);
        fault("age", 1, 0);
        fault("member 1=1 age;", 1, 11);
    }
}
