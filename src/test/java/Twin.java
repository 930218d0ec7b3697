import java.util.ArrayList;
import java.util.Arrays;
import java.util.List;
import java.util.TreeMap;

/**
 * A second board, written apart from the class and as plainly as can be, whatever it costs: the levies of past months
 * are a list, ways are sought month by month, choices of places are compared whole, texts are looked at by TwinText.
 */
final class Twin {
    static final int NONE = -1;

    static final class Person {
        int age;
        int trade;
        int wage;
        int firm;
        int owes;

        Person copy() {
            Person p = new Person();
            p.age = age;
            p.trade = trade;
            p.wage = wage;
            p.firm = firm;
            p.owes = owes;
            return p;
        }
    }

    record Lesson(int trainer, int trade, int hours, int seats, int price, int first, int last, int gives, int wants) {
    }

    record Told(int text, int from, int told) {
    }

    record Levied(int firm, int month, int wages, int heads, int amount) {
    }

    record Debt(int to, int by, int amount) {
    }

    static final class Going {
        int hand;
        int lesson;
        int firm;
        int lost;
        Integer mark;
        boolean passed;
        Integer back;
        boolean givenUp;
        boolean leftBehind;

        Going copy() {
            Going g = new Going();
            g.hand = hand;
            g.lesson = lesson;
            g.firm = firm;
            g.lost = lost;
            g.mark = mark;
            g.passed = passed;
            g.back = back;
            g.givenUp = givenUp;
            g.leftBehind = leftBehind;
            return g;
        }
    }

    static final class State {
        int clock;
        int firms;
        List<Person> hands = new ArrayList<>();
        List<Lesson> lessons = new ArrayList<>();
        List<TwinText> texts = new ArrayList<>();
        List<Told> rulings = new ArrayList<>();
        List<Going> goings = new ArrayList<>();
        List<Levied> levied = new ArrayList<>();
        List<Debt> debts = new ArrayList<>();
        int[] lack = new int[8];
        int[] cost = {1, 1, 1, 1, 1, 1, 1, 1};
        int[] worth = {1, 1, 1, 1, 1, 1, 1, 1};
        int[] life = new int[8];
        int[] results = new int[20];

        State copy() {
            State s = new State();
            s.clock = clock;
            s.firms = firms;
            for (Person p : hands) {
                s.hands.add(p.copy());
            }
            s.lessons.addAll(lessons);
            s.texts.addAll(texts);
            s.rulings.addAll(rulings);
            for (Going g : goings) {
                s.goings.add(g.copy());
            }
            s.levied.addAll(levied);
            s.debts.addAll(debts);
            s.lack = lack.clone();
            s.cost = cost.clone();
            s.worth = worth.clone();
            s.life = life.clone();
            s.results = results.clone();
            return s;
        }
    }

    private State s = new State();
    private State image = new State();
    private final StringBuilder tape = new StringBuilder();
    private int fault = NONE;
    private int place = NONE;
    private int[] sheet;
    private int sheetYear;

    private static boolean in(int v, int least, int most) {
        return least <= v && v <= most;
    }

    private boolean aFirm(int f) {
        return in(f, 0, s.firms - 1);
    }

    public int firm() {
        if (s.firms == 20) {
            return NONE;
        }
        s.firms++;
        return s.firms - 1;
    }

    public int hand(int age, int trade, int wage, int firm) {
        if (s.hands.size() == 60 || !in(age, 14, 80) || !in(trade, 0, 7) || !in(wage, 0, 5000)
                || firm != NONE && !aFirm(firm)) {
            return NONE;
        }
        Person p = new Person();
        p.age = age;
        p.trade = trade;
        p.wage = wage;
        p.firm = firm;
        s.hands.add(p);
        return s.hands.size() - 1;
    }

    public boolean trade(int trade, int lack, int cost, int worth) {
        if (!in(trade, 0, 7) || !in(lack, 0, 50) || !in(cost, 1, 200) || !in(worth, 0, 100)) {
            return false;
        }
        s.lack[trade] = lack;
        s.cost[trade] = cost;
        s.worth[trade] = worth;
        return true;
    }

    public boolean paper(int paper, int life) {
        if (!in(paper, 0, 7) || !in(life, 0, 120)) {
            return false;
        }
        s.life[paper] = life;
        return true;
    }

    public int course(int trainer, int trade, int hours, int seats, int price, int first, int last, int gives,
            int wants) {
        if (s.lessons.size() == 24 || !in(trainer, 0, 7) || !in(trade, 0, 7) || !in(hours, 1, 200)
                || !in(seats, 1, 20) || !in(price, 0, 5000) || !in(first, 0, 599) || !in(last, first, 599)
                || !in(gives, 0, 7) || !in(wants, 0, 255)) {
            return NONE;
        }
        s.lessons.add(new Lesson(trainer, trade, hours, seats, price, first, last, gives, wants));
        return s.lessons.size() - 1;
    }

    public boolean wage(int hand, int wage) {
        if (!in(hand, 0, s.hands.size() - 1) || !in(wage, 0, 5000)) {
            return false;
        }
        s.hands.get(hand).wage = wage;
        return true;
    }

    public int feed(int a, int b, int c, int d, int e) {
        if (tape.length() > 280) {
            return NONE;
        }
        for (int word : new int[] {a, b, c, d, e}) {
            for (int shift = 24; shift >= 0; shift -= 8) {
                tape.append((char) (word >>> shift & 0xff));
            }
        }
        return tape.length();
    }

    public int end(int n) {
        if (n < 0 || n > tape.length()) {
            return NONE;
        }
        tape.setLength(n);
        return n;
    }

    public int text() {
        if (s.texts.size() == 10) {
            return NONE;
        }
        TwinText read = new TwinText(tape.toString());
        tape.setLength(0);
        fault = read.fault;
        place = read.place;
        if (fault != 0) {
            return NONE;
        }
        s.texts.add(read);
        return s.texts.size() - 1;
    }

    public int fault(int what) {
        return what == 0 ? fault : what == 1 ? place : NONE;
    }

    public int ruling(int text, int from) {
        if (!in(text, 0, s.texts.size() - 1) || !in(from, 0, 599) || s.rulings.size() == 40) {
            return NONE;
        }
        s.rulings.add(new Told(text, from, s.clock));
        return s.rulings.size();
    }

    public int ruled(int sort, int month, int known) {
        if (!in(sort, 0, 6) || !in(month, 0, 599) || !in(known, 0, 599)) {
            return -2;
        }
        return ruleText(sort, month, known);
    }

    /** Sorted by from, then by number, the last that fits. */
    private int ruleText(int sort, int month, int known) {
        TreeMap<Integer, Integer> byRank = new TreeMap<>();
        for (int i = 0; i < s.rulings.size(); i++) {
            Told r = s.rulings.get(i);
            if (r.told <= known && r.from <= month && s.texts.get(r.text).clauses.containsKey(sort)) {
                byRank.put(r.from * 100 + i, r.text);
            }
        }
        return byRank.isEmpty() ? NONE : byRank.lastEntry().getValue();
    }

    private static long without(int sort, long[] names) {
        long[] of = {1, names[0] / 100, names[4], 0, names[2], 6, 50};
        return of[sort];
    }

    private long by(int text, int sort, long[] names) {
        if (text == NONE || !s.texts.get(text).clauses.containsKey(sort)) {
            return without(sort, names);
        }
        return s.texts.get(text).clauses.get(sort).value(names);
    }

    private long byNow(int sort, int month, long[] names) {
        return by(ruleText(sort, month, s.clock), sort, names);
    }

    private int wages(int firm) {
        return s.hands.stream().filter(p -> p.firm == firm).mapToInt(p -> p.wage).sum();
    }

    private int heads(int firm) {
        return (int) s.hands.stream().filter(p -> p.firm == firm).count();
    }

    private int paid(int firm, int from, int to) {
        return s.levied.stream().filter(l -> l.firm == firm && l.month >= from && l.month < to)
            .mapToInt(l -> l.amount).sum();
    }

    private int paidYear(int firm, int year) {
        return paid(firm, year * 12, year * 12 + 12);
    }

    private int backYear(int firm, int year) {
        return s.goings.stream()
            .filter(g -> g.firm == firm && g.back != null && s.lessons.get(g.lesson).last / 12 == year)
            .mapToInt(g -> g.back).sum();
    }

    private long[] names(Going g) {
        Lesson l = s.lessons.get(g.lesson);
        return new long[] {wages(g.firm), heads(g.firm), paidYear(g.firm, l.last / 12), l.last, l.hours, l.price,
            s.hands.get(g.hand).age, l.trade, s.lack[l.trade]};
    }

    private static long between(long v, long least, long most) {
        return v < least ? least : v > most ? most : v;
    }

    private long restOf(Going g) {
        Lesson l = s.lessons.get(g.lesson);
        long stay = between(byNow(3, l.last, names(g)), 0, 60);
        long rest = between(l.last + 1 + stay - s.clock, 0, stay);
        return stay == 0 ? 0 : l.price * rest / stay;
    }

    private List<Going> leftBehindBy(int hand) {
        List<Going> left = new ArrayList<>();
        int firm = s.hands.get(hand).firm;
        for (Going g : s.goings) {
            if (firm != NONE && g.hand == hand && g.firm == firm && g.passed && !g.leftBehind) {
                left.add(g);
            }
        }
        return left;
    }

    public int bound(int hand) {
        if (!in(hand, 0, s.hands.size() - 1)) {
            return NONE;
        }
        return (int) leftBehindBy(hand).stream().mapToLong(this::restOf).sum();
    }

    public int go(int hand, int firm) {
        if (!in(hand, 0, s.hands.size() - 1) || firm != NONE && !aFirm(firm) || s.hands.get(hand).firm == firm) {
            return NONE;
        }
        Person p = s.hands.get(hand);
        int due = bound(hand);
        for (Going g : leftBehindBy(hand)) {
            g.leftBehind = true;
        }
        s.debts.add(new Debt(p.firm, firm, due));
        if (firm == NONE) {
            p.owes += due;
        }
        p.firm = firm;
        return due;
    }

    public int owed(int to, int by) {
        if (!aFirm(to) || by != NONE && !aFirm(by)) {
            return NONE;
        }
        return s.debts.stream().filter(d -> d.to == to && d.by == by).mapToInt(d -> d.amount).sum();
    }

    private int left(int lesson) {
        return s.lessons.get(lesson).seats
            - (int) s.goings.stream().filter(g -> g.lesson == lesson && !g.givenUp).count();
    }

    private boolean holds(int hand, int paper, int month) {
        for (Going g : s.goings) {
            Lesson l = s.lessons.get(g.lesson);
            if (g.hand == hand && g.passed && l.gives == paper) {
                int since = month - l.last;
                if (since >= 1 && (s.life[paper] == 0 || since <= s.life[paper])) {
                    return true;
                }
            }
        }
        return false;
    }

    public int join(int hand, int course) {
        if (!in(hand, 0, s.hands.size() - 1) || !in(course, 0, s.lessons.size() - 1) || s.goings.size() == 120
                || s.clock == 600) {
            return NONE;
        }
        Person p = s.hands.get(hand);
        Lesson l = s.lessons.get(course);
        if (p.firm == NONE || l.first < s.clock || left(course) <= 0) {
            return NONE;
        }
        for (Going g : s.goings) {
            if (g.hand == hand && !g.givenUp) {
                Lesson o = s.lessons.get(g.lesson);
                for (int month = l.first; month <= l.last; month++) {
                    if (in(month, o.first, o.last)) {
                        return NONE;
                    }
                }
            }
        }
        for (int paper = 0; paper < 8; paper++) {
            if ((l.wants & 1 << paper) != 0 && !holds(hand, paper, l.first)) {
                return NONE;
            }
        }
        Going g = new Going();
        g.hand = hand;
        g.lesson = course;
        g.firm = p.firm;
        g.lost = p.wage * l.hours / 160;
        s.goings.add(g);
        return s.goings.size() - 1;
    }

    private Going standing(int joined) {
        if (!in(joined, 0, s.goings.size() - 1) || s.goings.get(joined).givenUp) {
            return null;
        }
        return s.goings.get(joined);
    }

    public boolean giveUp(int joined) {
        Going g = standing(joined);
        if (g == null || s.clock > s.lessons.get(g.lesson).first) {
            return false;
        }
        g.givenUp = true;
        return true;
    }

    public int marked(int joined, int mark) {
        Going g = standing(joined);
        if (g == null || !in(mark, 0, 100) || g.mark != null || s.clock <= s.lessons.get(g.lesson).last) {
            return NONE;
        }
        g.mark = mark;
        g.passed = mark >= byNow(6, s.lessons.get(g.lesson).last, names(g));
        return g.passed ? 1 : 0;
    }

    public int claim(int joined) {
        Going g = standing(joined);
        if (g == null) {
            return -5;
        }
        Lesson l = s.lessons.get(g.lesson);
        if (g.mark == null || g.back != null) {
            return -1;
        }
        if (!g.passed) {
            return -2;
        }
        long[] names = names(g);
        if (s.clock - l.last > byNow(5, l.last, names)) {
            return -3;
        }
        long back = between(byNow(2, l.last, names), 0, 1000000);
        long cap = Math.max(0, byNow(4, l.last, names));
        back = Math.min(back, Math.max(0, cap - backYear(g.firm, l.last / 12)));
        if (fund() < back) {
            return -4;
        }
        g.back = (int) back;
        return (int) back;
    }

    public boolean appeal(int joined) {
        Going g = standing(joined);
        if (g == null || g.back == null) {
            return false;
        }
        g.back = null;
        return true;
    }

    public int joined(int joined, int what) {
        if (!in(joined, 0, s.goings.size() - 1) || !in(what, 0, 8)) {
            return NONE;
        }
        Going g = s.goings.get(joined);
        int[] told = {g.hand, g.lesson, g.firm, g.mark == null ? NONE : g.mark, g.passed ? 1 : 0,
            g.back == null ? NONE : g.back, g.givenUp ? 1 : 0, g.lost, s.lessons.get(g.lesson).trainer};
        return told[what];
    }

    public int has(int hand, int paper, int month) {
        if (!in(hand, 0, s.hands.size() - 1) || !in(paper, 0, 7) || !in(month, 0, 599)) {
            return NONE;
        }
        return holds(hand, paper, month) ? 1 : 0;
    }

    public int months(int n) {
        if (!in(n, 1, 60) || s.clock + n > 600) {
            return NONE;
        }
        for (int i = 0; i < n; i++) {
            int m = s.clock;
            for (int firm = 0; firm < s.firms; firm++) {
                long[] names = {wages(firm), heads(firm), paid(firm, m / 12 * 12, m), m, 0, 0, 0, 0, 0};
                long amount = byNow(0, m, names) != 0 ? between(byNow(1, m, names), 0, 1000000) : 0;
                s.levied.add(new Levied(firm, m, (int) names[0], (int) names[1], (int) amount));
            }
            s.clock++;
        }
        return s.clock;
    }

    public int firmOf(int firm, int year, int what) {
        if (!aFirm(firm) || !in(year, 0, 49) || !in(what, 0, 3)) {
            return NONE;
        }
        return what == 0 ? wages(firm) : what == 1 ? heads(firm) : what == 2 ? paidYear(firm, year)
            : backYear(firm, year);
    }

    public int handOf(int hand, int what) {
        if (!in(hand, 0, s.hands.size() - 1) || !in(what, 0, 4)) {
            return NONE;
        }
        Person p = s.hands.get(hand);
        return new int[] {p.age, p.trade, p.wage, p.firm, p.owes}[what];
    }

    public int trainer(int trainer, int what) {
        if (!in(trainer, 0, 7) || !in(what, 0, 2)) {
            return NONE;
        }
        int[] told = new int[3];
        for (Going g : s.goings) {
            if (s.lessons.get(g.lesson).trainer == trainer && g.mark != null) {
                told[0]++;
                told[1] += g.passed ? 1 : 0;
                told[2] += g.mark;
            }
        }
        return told[what];
    }

    /** Month by month: with which PAPERS come on the way one can stand free there, and by how many COURSES at least. */
    public int way(int hand, int paper, int what) {
        if (!in(hand, 0, s.hands.size() - 1) || !in(paper, 0, 7) || !in(what, 0, 1)) {
            return NONE;
        }
        if (holds(hand, paper, s.clock)) {
            return what == 0 ? s.clock : 0;
        }
        int far = 1000;
        int[][] least = new int[602][256];
        for (int[] row : least) {
            Arrays.fill(row, far);
        }
        least[s.clock][0] = 0;
        int[] found = new int[600];
        Arrays.fill(found, far);
        for (int m = s.clock; m < 600; m++) {
            List<Lesson> starting = new ArrayList<>();
            List<Integer> wanting = new ArrayList<>();
            for (Lesson l : s.lessons) {
                if (l.first == m) {
                    starting.add(l);
                    int wanted = 0;
                    for (int p = 0; p < 8; p++) {
                        if ((l.wants >> p & 1) == 1 && !holds(hand, p, m)) {
                            wanted |= 1 << p;
                        }
                    }
                    wanting.add(wanted);
                }
            }
            for (int set = 0; set < 256; set++) {
                if (least[m][set] == far) {
                    continue;
                }
                least[m + 1][set] = Math.min(least[m + 1][set], least[m][set]);
                for (int i = 0; i < starting.size(); i++) {
                    Lesson l = starting.get(i);
                    if ((wanting.get(i) & ~set) == 0) {
                        int more = set | 1 << l.gives;
                        least[l.last + 1][more] = Math.min(least[l.last + 1][more], least[m][set] + 1);
                        if (l.gives == paper) {
                            found[l.last] = Math.min(found[l.last], least[m][set] + 1);
                        }
                    }
                }
            }
        }
        for (int m = 0; m < 600; m++) {
            if (found[m] != far) {
                return what == 0 ? m : found[m];
            }
        }
        return NONE;
    }

    /** Of each cost that can be: the best choice, as {worth, of trade 0, of trade 1, ..}. */
    public int places(int coins, int what) {
        if (!in(coins, 0, 2000) || !in(what, -2, 7)) {
            return -3;
        }
        TreeMap<Integer, int[]> byCost = new TreeMap<>();
        byCost.put(0, new int[9]);
        for (int trade = 0; trade < 8; trade++) {
            TreeMap<Integer, int[]> next = new TreeMap<>();
            for (int spent : byCost.keySet()) {
                for (int n = 0; n <= s.lack[trade] && spent + n * s.cost[trade] <= coins; n++) {
                    int[] choice = byCost.get(spent).clone();
                    choice[0] += n * s.worth[trade];
                    choice[trade + 1] = n;
                    int[] other = next.get(spent + n * s.cost[trade]);
                    if (other == null || isBetter(choice, other)) {
                        next.put(spent + n * s.cost[trade], choice);
                    }
                }
            }
            byCost = next;
        }
        int cost = 0;
        int[] best = null;
        for (int spent : byCost.keySet()) {
            if (best == null || byCost.get(spent)[0] > best[0]) {
                best = byCost.get(spent);
                cost = spent;
            }
        }
        return what == -2 ? cost : best[what + 1];
    }

    private static boolean isBetter(int[] one, int[] other) {
        if (one[0] != other[0]) {
            return one[0] > other[0];
        }
        for (int i = 1; i < 9; i++) {
            if (one[i] != other[i]) {
                return one[i] < other[i];
            }
        }
        return false;
    }

    public long proves(int coins, int a, int b) {
        if (!in(coins, 0, 2000) || !in(a, 0, 1000) || !in(b, 1, 1000)) {
            return NONE;
        }
        long together = (long) a * coins;
        for (int trade = 0; trade < 8; trade++) {
            for (int n = 0; n < s.lack[trade]; n++) {
                together += Math.max(0, (long) b * s.worth[trade] - (long) a * s.cost[trade]);
            }
        }
        return together / b;
    }

    public boolean result(int firm, int v) {
        if (!aFirm(firm) || !in(v, -1000, 1000)) {
            return false;
        }
        s.results[firm] = v;
        return true;
    }

    public int trial(int firms, int treated, int what) {
        List<Integer> of = new ArrayList<>();
        int many = 0;
        for (int bit = 0; bit < 32; bit++) {
            boolean one = (firms >>> bit & 1) == 1;
            boolean isTreated = (treated >>> bit & 1) == 1;
            if (one && bit >= s.firms || isTreated && !one) {
                return -1000000;
            }
            if (one) {
                of.add(bit);
                many += isTreated ? 1 : 0;
            }
        }
        if (of.size() < 2 || of.size() > 12 || many == 0 || many == of.size() || !in(what, 0, 3)) {
            return -1000000;
        }
        int effect = effect(of, treated);
        List<Integer> effects = new ArrayList<>();
        choose(of, 0, 0, many, effects);
        long like = effects.stream().filter(e -> Math.abs(e) >= Math.abs(effect)).count();
        return what == 0 ? effect : what == 1 ? (int) like : what == 2 ? effects.size()
            : 20 * like > effects.size() ? 0 : 1;
    }

    private int effect(List<Integer> of, int treated) {
        int yes = 0;
        int no = 0;
        int sumYes = 0;
        int sumNo = 0;
        for (int firm : of) {
            if ((treated >>> firm & 1) == 1) {
                yes++;
                sumYes += s.results[firm];
            } else {
                no++;
                sumNo += s.results[firm];
            }
        }
        return sumYes * no - sumNo * yes;
    }

    private void choose(List<Integer> of, int i, int set, int more, List<Integer> effects) {
        if (more == 0) {
            effects.add(effect(of, set));
        } else if (i < of.size()) {
            choose(of, i + 1, set | 1 << of.get(i), more - 1, effects);
            choose(of, i + 1, set, more, effects);
        }
    }

    public int drawn(int n, int seed, int i) {
        List<Integer> claimed = new ArrayList<>();
        for (int j = 0; j < s.goings.size(); j++) {
            if (s.goings.get(j).back != null) {
                claimed.add(j);
            }
        }
        int m = claimed.size();
        if (!in(n, 1, m) || !in(i, 0, n - 1)) {
            return NONE;
        }
        long state = seed & 0xffffffffL;
        for (int j = 0; j < n; j++) {
            state = (state * 1103515245L + 12345L) & 0xffffffffL;
            java.util.Collections.swap(claimed, j, j + (int) ((state >> 16) % (m - j)));
        }
        return claimed.get(i);
    }

    public long tried(int text, int what) {
        if (!in(text, 0, s.texts.size() - 1) || !in(what, 0, 1)) {
            return NONE;
        }
        long sum = 0;
        if (what == 0) {
            for (Levied l : s.levied) {
                long[] names = {l.wages, l.heads, paid(l.firm, l.month / 12 * 12, l.month), l.month, 0, 0, 0, 0, 0};
                sum += by(text, 0, names) != 0 ? between(by(text, 1, names), 0, 1000000) : 0;
            }
        } else {
            for (Going g : s.goings) {
                sum += g.back == null ? 0 : between(by(text, 2, names(g)), 0, 1000000);
            }
        }
        return sum;
    }

    private int[] books(int year) {
        int[] books = new int[40];
        for (int firm = 0; firm < s.firms; firm++) {
            books[2 * firm] = paidYear(firm, year);
            books[2 * firm + 1] = backYear(firm, year);
        }
        return books;
    }

    public boolean sheet(int year) {
        if (!in(year, 0, 49)) {
            return false;
        }
        sheet = books(year);
        sheetYear = year;
        return true;
    }

    public boolean alter(int firm, boolean back, int mask) {
        if (sheet == null || !in(firm, 0, 19) || mask == 0) {
            return false;
        }
        sheet[2 * firm + (back ? 1 : 0)] ^= mask;
        return true;
    }

    public int check(int what) {
        if (sheet == null || !in(what, 0, 2)) {
            return NONE;
        }
        List<Integer> other = new ArrayList<>();
        int[] books = books(sheetYear);
        for (int i = 0; i < 40; i++) {
            if (books[i] != sheet[i]) {
                other.add(i);
            }
        }
        if (what == 0) {
            return other.size();
        }
        return other.size() != 1 ? NONE : what == 1 ? other.get(0) / 2 : other.get(0) % 2;
    }

    public int image() {
        image = s.copy();
        return s.clock;
    }

    public int back() {
        s = image.copy();
        return s.clock;
    }

    public int about(int what) {
        int[] told = {s.clock, s.firms, s.hands.size(), s.lessons.size(), s.texts.size(), s.rulings.size(),
            s.goings.size(), (int) s.goings.stream().filter(g -> g.back != null).count(), tape.length()};
        if (in(what, 0, 8)) {
            return told[what];
        }
        return what >= 10 && what - 10 < s.lessons.size() ? left(what - 10) : NONE;
    }

    public long fund() {
        return s.levied.stream().mapToLong(l -> l.amount).sum()
            - s.goings.stream().mapToLong(g -> g.back == null ? 0 : g.back).sum();
    }

    /** For those who seek what to ask: FIRST of a COURSE, or -1. */
    int first(int course) {
        return in(course, 0, s.lessons.size() - 1) ? s.lessons.get(course).first : NONE;
    }

    /** For those who seek what to ask: LAST of what was JOINED. */
    int last(int joined) {
        return in(joined, 0, s.goings.size() - 1) ? s.lessons.get(s.goings.get(joined).lesson).last : 600;
    }
}
