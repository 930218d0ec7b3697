import java.lang.reflect.InvocationTargetException;
import java.lang.reflect.Method;
import java.util.ArrayList;
import java.util.Arrays;
import java.util.List;
import java.util.Random;
import java.util.TreeMap;

/** Long runs of calls on the class and on its twin: every answer must be the same. The runs are the same each time. */
public final class TwinTests {
    private static final int CALLS = 512;
    private static final String[] OFTEN = {"join", "join", "join", "join", "marked", "marked", "marked", "claim",
        "claim", "claim", "go", "go", "bound", "months", "months", "hand", "course", "joined", "way", "has", "appeal",
        "wage"};

    private final Random random;
    private final int quick;
    private final LearningPaid x = new LearningPaid();
    private final Twin twin = new Twin();
    private final List<String> told = new ArrayList<>();
    private static final TreeMap<String, Method> MINE = new TreeMap<>();
    private static final TreeMap<String, Method> TWINS = new TreeMap<>();
    private static final TreeMap<String, TreeMap<String, Integer>> SEEN = new TreeMap<>();

    private TwinTests(long seed) {
        random = new Random(seed);
        quick = 1 + random.nextInt(4);
    }

    public static void main(String[] args) throws ReflectiveOperationException {
        int runs = args.length > 1 ? Integer.parseInt(args[1]) : 400;
        long from = args.length > 2 ? Long.parseLong(args[2]) : 0;
        for (Method m : LearningPaid.class.getDeclaredMethods()) {
            if (java.lang.reflect.Modifier.isPublic(m.getModifiers())) {
                MINE.put(m.getName(), m);
                Method of = Twin.class.getDeclaredMethod(m.getName(), m.getParameterTypes());
                of.setAccessible(true);
                TWINS.put(m.getName(), of);
            }
        }
        int wrong = 0;
        for (long seed = from; seed < from + runs && wrong < 5; seed++) {
            TwinTests run = new TwinTests(seed);
            boolean same = seed % 8 == 3 ? run.runOfTexts() : seed % 8 == 5 ? run.runOfWays()
                : seed % 8 == 7 ? run.runOfChoices() : run.run();
            if (!same) {
                wrong++;
                System.out.println("run " + seed + " goes apart:");
                int n = run.told.size();
                for (String call : run.told.subList(Math.max(0, n - 40), n)) {
                    System.out.println("  " + call);
                }
            }
        }
        if (args.length > 3) {
            SEEN.forEach((name, answers) -> System.out.println(name + " " + answers));
        }
        Checks.due("runs that go apart", wrong, 0);
        Checks.finish("TwinTests (" + runs + " runs)");
    }

    private boolean run() throws ReflectiveOperationException {
        List<String> weighted = new ArrayList<>(MINE.keySet());
        weighted.remove("back");
        weighted.addAll(Arrays.asList(OFTEN));
        for (int i = random.nextInt(30); i > 0; i--) {
            weighted.add(weighted.get(random.nextInt(weighted.size())));
        }
        if (random.nextInt(3) == 0) {
            weighted.add("back");
        }
        int firms = 1 + random.nextInt(4);
        for (int i = 0; i < firms; i++) {
            call("firm");
        }
        for (int i = random.nextInt(8); i >= 0; i--) {
            callBy("hand");
        }
        for (int i = random.nextInt(10); i >= 0; i--) {
            callBy("course");
        }
        if (random.nextBoolean()) {
            String text = random.nextBoolean() ? wholeText() : "stay " + random.nextInt(70) + "+heads;proof "
                + random.nextInt(61) + ";" + (random.nextBoolean() ? "back hours*" + random.nextInt(40) + ";" : "")
                + (random.nextBoolean() ? "cap " + random.nextInt(5000) + ";" : "");
            if (!putText(text) || !call("ruling", 0, 0)) {
                return false;
            }
        }
        while (told.size() < CALLS) {
            String name = weighted.get(random.nextInt(weighted.size()));
            boolean same = name.equals("feed") || name.equals("text") && random.nextInt(3) > 0 ? putText(anyText())
                : callBy(name);
            if (!same) {
                return false;
            }
        }
        return true;
    }

    /** Texts alone, and what they would have levied and given back. */
    private boolean runOfTexts() throws ReflectiveOperationException {
        call("firm");
        call("hand", 30, 3, 4321, 0);
        call("course", 1, 2, 37, 3, 777, 1, 2, 3, 0);
        call("trade", 2, 13, 1, 1);
        call("join", 0, 0);
        call("months", 14);
        call("marked", 0, 77);
        call("claim", 0);
        putText("proof 60;");
        call("ruling", 0, 0);
        call("claim", 0);
        call("image");
        while (told.size() < CALLS) {
            if (!putText(anyText())) {
                return false;
            }
            int texts = twin.about(4);
            if (!call("tried", texts - 1, 0) || !call("tried", texts - 1, 1) || texts == 10 && !call("back")) {
                return false;
            }
        }
        return true;
    }

    /** Ways alone: many COURSES that lean on one another, some PAPERS held already. */
    private boolean runOfWays() throws ReflectiveOperationException {
        call("firm");
        call("hand", 30, 3, 4321, 0);
        int months = 4 + random.nextInt(40);
        int held = random.nextInt(5);
        for (int i = 0; i < held; i++) {
            call("course", 1, 1, 1, 1, 1, i, i, random.nextInt(8), 0);
            call("join", 0, i);
        }
        call("months", 5);
        for (int i = 0; i < held; i++) {
            call("marked", i, 90);
        }
        call("image");
        while (told.size() < CALLS - 60) {
            call("back");
            int wants = 1 + random.nextInt(3);
            for (int i = random.nextInt(24 - held); i >= 0; i--) {
                int first = 4 + random.nextInt(months);
                int set = 0;
                for (int n = random.nextInt(wants + 1); n > 0; n--) {
                    set |= 1 << random.nextInt(8);
                }
                call("course", 1, 1, 1, 1, 1, first, first + random.nextInt(3), random.nextInt(8), set);
            }
            for (int paper = 0; paper < 8; paper++) {
                call("paper", paper, random.nextInt(12));
                if (!call("way", 0, paper, 0) || !call("way", 0, paper, 1)) {
                    return false;
                }
            }
        }
        return true;
    }

    /** Places with many that are alike, and trials. */
    private boolean runOfChoices() throws ReflectiveOperationException {
        int firms = 2 + random.nextInt(13);
        for (int i = 0; i < firms; i++) {
            call("firm");
        }
        int most = 1 + random.nextInt(8);
        while (told.size() < CALLS - 60) {
            for (int trade = 0; trade < 8; trade++) {
                call("trade", trade, random.nextInt(most), 1 + random.nextInt(most), random.nextInt(most));
            }
            int coins = random.nextInt(8 * most * most);
            for (int what = -2; what < 8; what++) {
                if (!call("places", coins, what)) {
                    return false;
                }
            }
            for (int firm = 0; firm < firms; firm++) {
                call("result", firm, random.nextInt(2 * most) - most);
            }
            int of = random.nextInt(1 << firms);
            int treated = of & random.nextInt(1 << firms);
            for (int what = 0; what < 4; what++) {
                if (!call("trial", of, treated, what)) {
                    return false;
                }
            }
        }
        return true;
    }

    private boolean callBy(String name) throws ReflectiveOperationException {
        return call(name, args(name));
    }

    private boolean call(String name, Object... args) throws ReflectiveOperationException {
        if (told.size() >= CALLS) {
            return true;
        }
        Object mine;
        try {
            mine = MINE.get(name).invoke(x, args);
        } catch (InvocationTargetException e) {
            mine = e.getCause();
        }
        Object due = TWINS.get(name).invoke(twin, args);
        told.add(name + Arrays.toString(args) + " answered " + mine + ", the twin " + due);
        SEEN.computeIfAbsent(name, n -> new TreeMap<>()).merge(kind(due), 1, Integer::sum);
        return mine.equals(due);
    }

    private static String kind(Object answer) {
        if (answer instanceof Boolean) {
            return answer.toString();
        }
        long value = ((Number) answer).longValue();
        return value < 10 ? Long.toString(value) : value < 100 ? "tens" : value < 1000 ? "hundreds" : "more";
    }

    private boolean putText(String text) throws ReflectiveOperationException {
        boolean same = random.nextInt(20) == 0 || call("end", 0);
        for (int i = 0; i < text.length() && same; i += 20) {
            int[] words = new int[5];
            for (int j = 0; j < 20; j++) {
                int c = i + j < text.length() ? text.charAt(i + j) : random.nextInt(256);
                words[j / 4] = words[j / 4] << 8 | c;
            }
            same = call("feed", words[0], words[1], words[2], words[3], words[4]);
        }
        return same && call("end", text.length()) && call("text") && call("fault", 0) && call("fault", 1);
    }

    /** Within least and most, but now and then at an edge or beyond it. */
    private int num(int least, int most) {
        switch (random.nextInt(60)) {
            case 0: return least - 1;
            case 1: return most + 1;
            case 2: return least;
            case 3: return most;
            case 4: return random.nextInt(10) == 0 ? Integer.MIN_VALUE : least;
            case 5: return random.nextInt(10) == 0 ? Integer.MAX_VALUE : most;
            default: return (long) most - least < 1 || (long) most - least > 100000 ? least
                : least + random.nextInt(most - least + 1);
        }
    }

    private int firmOrNone() {
        return random.nextInt(5) == 0 ? -1 : num(0, twin.about(1) - 1);
    }

    private int aHand() {
        return num(0, twin.about(2) - 1);
    }

    /** A HAND that is at a FIRM, if a few looks find one. */
    private int aHandAtWork() {
        for (int i = 0; i < 5; i++) {
            int hand = aHand();
            if (twin.handOf(hand, 3) != -1) {
                return hand;
            }
        }
        return aHand();
    }

    /** A HAND that is bound, if one is. */
    private int aBoundHand() {
        for (int hand = 0; hand < twin.about(2) && random.nextInt(8) > 0; hand++) {
            if (twin.bound(hand) > 0 && random.nextInt(3) > 0) {
                return hand;
            }
        }
        return aHand();
    }

    /** A COURSE that hasn't begun, if a few looks find one. */
    private int aCourse() {
        for (int i = 0; i < 12; i++) {
            int course = num(0, twin.about(3) - 1);
            if (twin.about(10 + course) > 0 && twin.first(course) >= twin.about(0)) {
                return course;
            }
        }
        return num(0, twin.about(3) - 1);
    }

    /** What was JOINED and is over but not MARKED (or PASSED and not CLAIMED), if a few looks find one. */
    private int aJoined(boolean isMarked) {
        for (int i = 0; i < 12; i++) {
            int joined = num(0, twin.about(6) - 1);
            if (twin.joined(joined, 6) == 0 && twin.last(joined) < twin.about(0)
                    && (isMarked ? twin.joined(joined, 4) == 1 && twin.joined(joined, 5) == -1
                    : twin.joined(joined, 3) == -1)) {
                return joined;
            }
        }
        return aJoined();
    }

    private int aJoined() {
        return random.nextInt(3) == 0 ? num(0, twin.about(6) - 1)
            : num(Math.max(0, twin.about(6) - 6), twin.about(6) - 1);
    }

    private int nearMonth() {
        int clock = twin.about(0);
        return random.nextInt(12) == 0 ? num(0, 599) : num(Math.max(0, clock - 3), clock + 12);
    }

    private int someBits() {
        return random.nextInt(3) == 0 ? num(0, 255) : random.nextInt(2) * (1 << random.nextInt(8));
    }

    private Object[] args(String name) {
        int clock = twin.about(0);
        switch (name) {
            case "hand": return of(num(14, 80), num(0, 7), num(0, 5000), firmOrNone());
            case "trade": return of(num(0, 7), random.nextInt(3) == 0 ? num(0, 50) : num(0, 4),
                random.nextBoolean() ? num(1, 200) : num(1, 5), random.nextBoolean() ? num(0, 100) : num(0, 5));
            case "paper": return of(num(0, 7), random.nextInt(3) == 0 ? num(0, 120) : num(0, 6));
            case "course": {
                int first = random.nextInt(10) == 0 ? num(0, 599) : clock + random.nextInt(8);
                int last = random.nextInt(10) == 0 ? num(0, 599) : first + random.nextInt(3);
                int wants = random.nextInt(3) > 0 ? 0 : someBits();
                return of(num(0, 7), num(0, 7), num(1, 200), num(1, 20), num(0, 5000), first, last, num(0, 7), wants);
            }
            case "wage": return of(aHand(), num(0, 5000));
            case "feed": return of(random.nextInt(), random.nextInt(), random.nextInt(), random.nextInt(),
                random.nextInt());
            case "end": return of(num(0, twin.about(8)));
            case "fault": return of(num(0, 1));
            case "ruling": return of(num(0, twin.about(4) - 1), nearMonth());
            case "ruled": return of(num(0, 6), nearMonth(), nearMonth());
            case "go": return of(random.nextBoolean() ? aBoundHand() : aHand(), firmOrNone());
            case "join": return of(aHandAtWork(), aCourse());
            case "giveUp": case "appeal": return of(aJoined());
            case "claim": return of(aJoined(true));
            case "marked": return of(aJoined(false), random.nextInt(3) == 0 ? num(0, 100) : num(40, 100));
            case "joined": return of(aJoined(), num(0, 8));
            case "has": return of(aHand(), num(0, 7), nearMonth());
            case "bound": return of(aBoundHand());
            case "owed": return of(num(0, twin.about(1) - 1), firmOrNone());
            case "months": return of(random.nextInt(12) == 0 ? num(1, 60) : 1 + random.nextInt(quick));
            case "firmOf": return of(num(0, twin.about(1) - 1), random.nextInt(3) == 0 ? num(0, 49) : clock / 12,
                num(0, 3));
            case "handOf": return of(aHand(), num(0, 4));
            case "trainer": return of(num(0, 7), num(0, 2));
            case "way": return of(aHand(), num(0, 7), num(0, 1));
            case "places": return of(random.nextInt(8) == 0 ? num(0, 2000) : num(0, 60), num(-2, 7));
            case "proves": return of(num(0, 2000), num(0, 1000), num(1, 1000));
            case "result": return of(num(0, twin.about(1) - 1), random.nextBoolean() ? num(-1000, 1000) : num(-3, 3));
            case "trial": {
                int firms = num(0, (1 << twin.about(1)) - 1);
                int treated = random.nextInt(10) == 0 ? num(0, 255) : firms & random.nextInt(1 << 20);
                return of(firms, treated, num(0, 3));
            }
            case "drawn": {
                int n = num(1, twin.about(7));
                return of(n, random.nextInt(), num(0, n - 1));
            }
            case "tried": return of(num(0, twin.about(4) - 1), num(0, 1));
            case "sheet": return of(random.nextBoolean() ? num(0, 49) : clock / 12);
            case "alter": return new Object[] {num(0, 19), random.nextBoolean(), num(0, 3)};
            case "check": return of(num(0, 2));
            case "about": return of(num(0, 36));
            default: return of();
        }
    }

    private static Object[] of(int... args) {
        Object[] all = new Object[args.length];
        for (int i = 0; i < args.length; i++) {
            all[i] = args[i];
        }
        return all;
    }

    private String anyText() {
        String text = wholeText();
        for (int i = random.nextInt(4) - 1; i > 0; i--) {
            text = spoil(text);
        }
        return text.length() > 300 ? text.substring(0, 300) : text;
    }

    private String wholeText() {
        StringBuilder text = new StringBuilder();
        List<Integer> sorts = new ArrayList<>(List.of(0, 1, 2, 3, 4, 5, 6));
        java.util.Collections.shuffle(sorts, random);
        for (int sort : sorts.subList(0, random.nextInt(5))) {
            StringBuilder clause = new StringBuilder();
            clause.append(TwinText.SORTS.get(sort)).append(' ');
            boolean firms = sort == 0 || sort == 1 || sort == 4;
            if (sort == 0) {
                putEither(clause, random.nextInt(3));
            } else if (sort == 5) {
                clause.append(num(0, 60));
            } else if (sort == 6) {
                clause.append(num(0, 100));
            } else {
                putSum(clause, random.nextInt(5), firms);
            }
            clause.append(blank()).append(';').append(blank());
            if (text.length() + clause.length() <= 300) {
                text.append(clause);
            }
        }
        return text.toString();
    }

    private String blank() {
        return random.nextInt(3) == 0 ? " " : random.nextInt(20) == 0 ? "\n " : "";
    }

    private void putEither(StringBuilder text, int more) {
        for (int i = 0; i <= more; i++) {
            if (i > 0) {
                text.append(random.nextBoolean() ? " or " : " and ");
            }
            for (int n = random.nextInt(4) == 0 ? random.nextInt(10) : 0; n > 0; n--) {
                text.append("not ");
            }
            putSum(text, random.nextInt(3), true);
            text.append(blank()).append(new String[] {"<", "<=", ">", ">=", "=", "#"}[random.nextInt(6)]);
            putSum(text, random.nextInt(2), true);
        }
    }

    private void putSum(StringBuilder text, int more, boolean firms) {
        text.append(blank());
        int kind = random.nextInt(more > 0 ? 8 : 2);
        switch (kind) {
            case 0: text.append(number()); break;
            case 1: text.append(TwinText.NAMES.get(random.nextInt(firms && random.nextInt(40) > 0 ? 4 : 9))); break;
            case 2: text.append('('); putSum(text, more - 1, firms); text.append(')'); break;
            case 3: text.append('-'); putSum(text, more - 1, firms); break;
            case 4:
                text.append(random.nextBoolean() ? "min" : "max").append(blank()).append('(');
                putSum(text, more - 1, firms);
                text.append(',');
                putSum(text, more - 1, firms);
                text.append(')');
                break;
            default:
                putSum(text, more - 1, firms);
                text.append(blank()).append("+-*/".charAt(random.nextInt(4)));
                putSum(text, more - 1, firms);
        }
        text.append(blank());
    }

    private int number() {
        return random.nextInt(3) == 0 ? num(0, 9999) : random.nextInt(12);
    }

    private String spoil(String text) {
        int at = random.nextInt(text.length() + 1);
        int to = Math.min(text.length(), at + random.nextInt(4));
        String[] put = {"", "(", ")", "-", "not ", ";", ",", " ", "1", "<", "=", "((((((((", "--------", "min(",
            "age", "levy 1;", "member ", " or ", "and ", "proof ", "\u00e4", "_", "99999", "number", "sum", "Mark"};
        return text.substring(0, at) + put[random.nextInt(put.length)] + text.substring(to);
    }
}
