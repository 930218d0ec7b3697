import java.util.Arrays;

/** A board for learning paid for, as ../shared/DOC.md promises it; words in capitals are that document's. */
public final class LearningPaid {
    public static final int NONE = -1;

    private static final int MONTHS = 600;
    private static final int YEAR = 12;
    private static final int YEARS = 50;
    private static final int TRADES = 8;
    private static final int PAPERS = 8;
    private static final int PAPER_SETS = 256;
    private static final int TRAINERS = 8;
    private static final int FIRMS = 20;
    private static final int HANDS = 60;
    private static final int COURSES = 24;
    private static final int TEXTS = 10;
    private static final int RULINGS = 40;
    private static final int JOINS = 120;
    private static final int TAPE = 300;
    private static final int COINS = 2000;
    private static final int MOST_LACK = 50;
    private static final int MOST_COST = 200;
    private static final int MOST_WORTH = 100;
    private static final int MOST_WAGE = 5000;
    private static final int MOST_PRICE = 5000;
    private static final int MOST_LIFE = 120;
    private static final int MOST_MARK = 100;
    private static final int MOST_STAY = 60;
    private static final int MOST_RESULT = 1000;
    private static final int MOST_TRIED_FIRMS = 12;
    private static final int MOST_DUE = 1000000;

    // Sorts of CLAUSE, by the numbers that ruled takes.
    private static final int MEMBER = 0;
    private static final int LEVY = 1;
    private static final int BACK = 2;
    private static final int STAY = 3;
    private static final int CAP = 4;
    private static final int PROOF = 5;
    private static final int MARK = 6;
    private static final int SORTS = 7;

    // NAMES, in the order in which Reader.WORDS has them; the first four are a FIRM's.
    private static final int WAGES = 0;
    private static final int HEADS = 1;
    private static final int PAID = 2;
    private static final int MONTH = 3;
    private static final int HOURS = 4;
    private static final int PRICE = 5;
    private static final int AGE = 6;
    private static final int TRADE = 7;
    private static final int LACK = 8;
    private static final int NAMES = 9;
    private static final int FIRM_NAMES = 4;

    private static final int NOT_TO_CLAIM = -1;
    private static final int NOT_PASSED = -2;
    private static final int PROVED_TOO_LATE = -3;
    private static final int FUND_HAS_LESS = -4;
    private static final int NO_CLAIM = -5;
    private static final int NO_RULE = -2;
    private static final int NO_PLACES = -3;
    private static final int COST_TOGETHER = -2;
    private static final int NO_TRIAL = -1000000;

    private final Board now = new Board();
    private final Board kept = new Board();
    private final Course[] courses = new Course[COURSES];
    private final Law law = new Law();
    private final Past past = new Past();
    private final Reader reader = new Reader();
    private final Sheet taken = new Sheet();
    private final Ways ways = new Ways();
    private final Places choice = new Places();
    private final int[] wagesByFirm = new int[FIRMS];
    private final int[] headsByFirm = new int[FIRMS];
    private final int[] order = new int[JOINS];
    private final int[] results = new int[MOST_TRIED_FIRMS];

    public LearningPaid() {
        for (int course = 0; course < COURSES; course++) {
            courses[course] = new Course();
        }
        reader.putLine(Law.WITHOUT);
        reader.readInto(law.without);
        reader.forget();
    }

    // ---- What there is ----

    public int firm() {
        if (now.firms >= FIRMS) {
            return NONE;
        }
        return now.firms++;
    }

    public int hand(int age, int trade, int wage, int firm) {
        boolean told = isWithin(age, 14, 80) && isWithin(trade, 0, TRADES - 1) && isWithin(wage, 0, MOST_WAGE);
        if (!told || !isFirmOrNone(firm) || now.hands >= HANDS) {
            return NONE;
        }
        Hand made = now.hand[now.hands];
        made.age = age;
        made.trade = trade;
        made.wage = wage;
        made.firm = firm;
        made.owes = 0;
        return now.hands++;
    }

    public boolean trade(int trade, int lack, int cost, int worth) {
        boolean told = isWithin(trade, 0, TRADES - 1) && isWithin(lack, 0, MOST_LACK)
            && isWithin(cost, 1, MOST_COST) && isWithin(worth, 0, MOST_WORTH);
        if (!told) {
            return false;
        }
        now.lack[trade] = lack;
        now.cost[trade] = cost;
        now.worth[trade] = worth;
        return true;
    }

    public boolean paper(int paper, int life) {
        if (!isWithin(paper, 0, PAPERS - 1) || !isWithin(life, 0, MOST_LIFE)) {
            return false;
        }
        now.life[paper] = life;
        return true;
    }

    public int course(int trainer, int trade, int hours, int seats, int price, int first, int last, int gives,
            int wants) {
        boolean told = isWithin(trainer, 0, TRAINERS - 1) && isWithin(trade, 0, TRADES - 1)
            && isWithin(hours, 1, 200) && isWithin(seats, 1, 20) && isWithin(price, 0, MOST_PRICE)
            && isMonth(first) && isMonth(last) && last >= first
            && isWithin(gives, 0, PAPERS - 1) && isWithin(wants, 0, PAPER_SETS - 1);
        if (!told || now.courses >= COURSES) {
            return NONE;
        }
        Course made = courses[now.courses];
        made.trainer = trainer;
        made.trade = trade;
        made.hours = hours;
        made.seats = seats;
        made.price = price;
        made.first = first;
        made.last = last;
        made.gives = gives;
        made.wants = wants;
        return now.courses++;
    }

    public boolean wage(int hand, int wage) {
        if (!isHand(hand) || !isWithin(wage, 0, MOST_WAGE)) {
            return false;
        }
        now.hand[hand].wage = wage;
        return true;
    }

    // ---- TEXTS and RULINGS ----

    public int feed(int a, int b, int c, int d, int e) {
        if (reader.length + 20 > TAPE) {
            return NONE;
        }
        reader.putWord(a);
        reader.putWord(b);
        reader.putWord(c);
        reader.putWord(d);
        reader.putWord(e);
        return reader.length;
    }

    public int end(int n) {
        if (!isWithin(n, 0, reader.length)) {
            return NONE;
        }
        reader.length = n;
        return n;
    }

    public int text() {
        if (now.texts >= TEXTS) {
            return NONE;
        }
        reader.readInto(law.texts[now.texts]);
        reader.length = 0;
        return reader.fault == 0 ? now.texts++ : NONE;
    }

    public int fault(int what) {
        switch (what) {
            case 0: return reader.fault;
            case 1: return reader.place;
            default: return NONE;
        }
    }

    public int ruling(int text, int from) {
        if (!isWithin(text, 0, now.texts - 1) || !isMonth(from) || now.rulings >= RULINGS) {
            return NONE;
        }
        law.text[now.rulings] = text;
        law.from[now.rulings] = from;
        law.told[now.rulings] = now.clock;
        now.rulings++;
        return now.rulings;
    }

    public int ruled(int sort, int month, int known) {
        if (!isWithin(sort, 0, SORTS - 1) || !isMonth(month) || !isMonth(known)) {
            return NO_RULE;
        }
        return law.textFor(sort, month, known, now.rulings);
    }

    /** THE RULE's answer as KNOWN now, by the NAMES that were put last. */
    private int byRule(int sort, int month) {
        return law.answer(law.textFor(sort, month, now.clock, now.rulings), sort);
    }

    // ---- WORK and COURSES ----

    public int go(int hand, int firm) {
        if (!isHand(hand) || !isFirmOrNone(firm)) {
            return NONE;
        }
        Hand goer = now.hand[hand];
        if (goer.firm == firm) {
            return NONE;
        }
        int due = dueIfLeft(hand);
        settle(hand);
        if (goer.firm != NONE) {
            now.owed[goer.firm][firm + 1] += due;
        }
        if (firm == NONE) {
            goer.owes += due;
        }
        goer.firm = firm;
        return due;
    }

    public int join(int hand, int course) {
        if (!isHand(hand) || !isCourse(course) || now.joins >= JOINS) {
            return NONE;
        }
        Hand goer = now.hand[hand];
        Course wanted = courses[course];
        if (goer.firm == NONE || wanted.first < now.clock || seatsLeft(course) < 1 || isBusy(hand, wanted)
                || (wanted.wants & ~papersOf(hand, wanted.first)) != 0) {
            return NONE;
        }
        Join made = now.join[now.joins];
        made.hand = hand;
        made.course = course;
        made.firm = goer.firm;
        made.lost = goer.wage * wanted.hours / 160;
        made.mark = NONE;
        made.passed = false;
        made.back = NONE;
        made.givenUp = false;
        made.settled = false;
        return now.joins++;
    }

    public boolean giveUp(int joined) {
        if (!isStanding(joined) || now.clock > courseOf(joined).first) {
            return false;
        }
        now.join[joined].givenUp = true;
        return true;
    }

    public int marked(int joined, int mark) {
        if (!isStanding(joined) || !isWithin(mark, 0, MOST_MARK)) {
            return NONE;
        }
        Join of = now.join[joined];
        int last = courseOf(joined).last;
        if (of.mark != NONE || now.clock <= last) {
            return NONE;
        }
        of.mark = mark;
        of.passed = mark >= byRule(MARK, last);
        return of.passed ? 1 : 0;
    }

    public int claim(int joined) {
        if (!isStanding(joined)) {
            return NO_CLAIM;
        }
        Join of = now.join[joined];
        int last = courseOf(joined).last;
        if (of.mark == NONE || of.back != NONE) {
            return NOT_TO_CLAIM;
        }
        if (!of.passed) {
            return NOT_PASSED;
        }
        if (now.clock - last > byRule(PROOF, last)) {
            return PROVED_TOO_LATE;
        }
        int back = backDue(joined);
        if (now.fund < back) {
            return FUND_HAS_LESS;
        }
        of.back = back;
        now.fund -= back;
        return back;
    }

    public boolean appeal(int joined) {
        if (!isStanding(joined) || now.join[joined].back == NONE) {
            return false;
        }
        Join of = now.join[joined];
        now.fund += of.back;
        of.back = NONE;
        return true;
    }

    public int joined(int joined, int what) {
        if (!isWithin(joined, 0, now.joins - 1)) {
            return NONE;
        }
        Join of = now.join[joined];
        switch (what) {
            case 0: return of.hand;
            case 1: return of.course;
            case 2: return of.firm;
            case 3: return of.mark;
            case 4: return of.passed ? 1 : 0;
            case 5: return of.back;
            case 6: return of.givenUp ? 1 : 0;
            case 7: return of.lost;
            case 8: return courseOf(joined).trainer;
            default: return NONE;
        }
    }

    public int has(int hand, int paper, int month) {
        if (!isHand(hand) || !isWithin(paper, 0, PAPERS - 1) || !isMonth(month)) {
            return NONE;
        }
        return papersOf(hand, month) >> paper & 1;
    }

    public int bound(int hand) {
        return isHand(hand) ? dueIfLeft(hand) : NONE;
    }

    public int owed(int to, int by) {
        if (!isFirm(to) || !isFirmOrNone(by)) {
            return NONE;
        }
        return now.owed[to][by + 1];
    }

    private boolean isBusy(int hand, Course wanted) {
        for (int joined = 0; joined < now.joins; joined++) {
            Join of = now.join[joined];
            Course other = courses[of.course];
            if (of.hand == hand && !of.givenUp && other.first <= wanted.last && wanted.first <= other.last) {
                return true;
            }
        }
        return false;
    }

    private int seatsLeft(int course) {
        int left = courses[course].seats;
        for (int joined = 0; joined < now.joins; joined++) {
            if (now.join[joined].course == course && !now.join[joined].givenUp) {
                left--;
            }
        }
        return left;
    }

    /** All PAPERS that a HAND HAS in a MONTH, as bits. */
    private int papersOf(int hand, int month) {
        int papers = 0;
        for (int joined = 0; joined < now.joins; joined++) {
            Join of = now.join[joined];
            if (of.hand == hand && of.passed) {
                Course done = courses[of.course];
                int life = now.life[done.gives];
                if (done.last < month && (life == 0 || month - done.last <= life)) {
                    papers |= 1 << done.gives;
                }
            }
        }
        return papers;
    }

    /** What comes back for what was JOINED, not more than the cap leaves. */
    private int backDue(int joined) {
        Join of = now.join[joined];
        int last = courseOf(joined).last;
        putNamesOf(joined);
        int back = clipped(byRule(BACK, last), MOST_DUE);
        int left = byRule(CAP, last) - backIn(of.firm, last / YEAR);
        return Math.min(back, Math.max(left, 0));
    }

    private int dueIfLeft(int hand) {
        int due = 0;
        for (int joined = 0; joined < now.joins; joined++) {
            if (isLeftBehind(hand, joined)) {
                due += restDue(joined);
            }
        }
        return due;
    }

    private void settle(int hand) {
        for (int joined = 0; joined < now.joins; joined++) {
            if (isLeftBehind(hand, joined)) {
                now.join[joined].settled = true;
            }
        }
    }

    /** Whether a HAND that leaves its FIRM now leaves this COURSE behind for the first time. */
    private boolean isLeftBehind(int hand, int joined) {
        Join of = now.join[joined];
        return of.hand == hand && of.passed && !of.settled && of.firm == now.hand[hand].firm;
    }

    private int restDue(int joined) {
        Course done = courseOf(joined);
        putNamesOf(joined);
        int stay = clipped(byRule(STAY, done.last), MOST_STAY);
        if (stay == 0) {
            return 0;
        }
        int rest = clipped(done.last + 1 + stay - now.clock, stay);
        return done.price * rest / stay;
    }

    private void putNamesOf(int joined) {
        Join of = now.join[joined];
        Course done = courseOf(joined);
        law.putFirm(wagesOf(of.firm), headsOf(of.firm), paidIn(of.firm, done.last / YEAR), done.last);
        law.names[HOURS] = done.hours;
        law.names[PRICE] = done.price;
        law.names[AGE] = now.hand[of.hand].age;
        law.names[TRADE] = done.trade;
        law.names[LACK] = now.lack[done.trade];
    }

    // ---- MONTHS and what the books tell ----

    public int months(int n) {
        if (!isWithin(n, 1, 60) || now.clock + n > MONTHS) {
            return NONE;
        }
        for (int firm = 0; firm < now.firms; firm++) {
            wagesByFirm[firm] = wagesOf(firm);
            headsByFirm[firm] = headsOf(firm);
        }
        for (int gone = 0; gone < n; gone++) {
            passMonth(now.clock);
            now.clock++;
        }
        return now.clock;
    }

    private void passMonth(int month) {
        int memberText = law.textFor(MEMBER, month, month, now.rulings);
        int levyText = law.textFor(LEVY, month, month, now.rulings);
        past.firms[month] = now.firms;
        for (int firm = 0; firm < now.firms; firm++) {
            int ahead = past.paidAhead(firm, month);
            law.putFirm(wagesByFirm[firm], headsByFirm[firm], ahead, month);
            int levy = law.levyBy(memberText, levyText);
            past.put(firm, month, wagesByFirm[firm], headsByFirm[firm], ahead + levy);
            now.fund += levy;
        }
    }

    public int firmOf(int firm, int year, int what) {
        if (!isFirm(firm) || !isYear(year)) {
            return NONE;
        }
        switch (what) {
            case 0: return wagesOf(firm);
            case 1: return headsOf(firm);
            case 2: return paidIn(firm, year);
            case 3: return backIn(firm, year);
            default: return NONE;
        }
    }

    public int handOf(int hand, int what) {
        if (!isHand(hand)) {
            return NONE;
        }
        Hand of = now.hand[hand];
        switch (what) {
            case 0: return of.age;
            case 1: return of.trade;
            case 2: return of.wage;
            case 3: return of.firm;
            case 4: return of.owes;
            default: return NONE;
        }
    }

    public int trainer(int trainer, int what) {
        if (!isWithin(trainer, 0, TRAINERS - 1) || !isWithin(what, 0, 2)) {
            return NONE;
        }
        int sum = 0;
        for (int joined = 0; joined < now.joins; joined++) {
            Join of = now.join[joined];
            if (of.mark != NONE && courseOf(joined).trainer == trainer) {
                sum += what == 0 ? 1 : what == 1 ? (of.passed ? 1 : 0) : of.mark;
            }
        }
        return sum;
    }

    public int about(int what) {
        switch (what) {
            case 0: return now.clock;
            case 1: return now.firms;
            case 2: return now.hands;
            case 3: return now.courses;
            case 4: return now.texts;
            case 5: return now.rulings;
            case 6: return now.joins;
            case 7: return orderClaimed();
            case 8: return reader.length;
            default: return isCourse(what - 10) ? seatsLeft(what - 10) : NONE;
        }
    }

    public long fund() {
        return now.fund;
    }

    private int wagesOf(int firm) {
        int wages = 0;
        for (int hand = 0; hand < now.hands; hand++) {
            if (now.hand[hand].firm == firm) {
                wages += now.hand[hand].wage;
            }
        }
        return wages;
    }

    private int headsOf(int firm) {
        int heads = 0;
        for (int hand = 0; hand < now.hands; hand++) {
            if (now.hand[hand].firm == firm) {
                heads++;
            }
        }
        return heads;
    }

    private int paidIn(int firm, int year) {
        int gone = Math.min(now.clock, (year + 1) * YEAR);
        return gone > year * YEAR ? past.paidWith(firm, gone - 1) : 0;
    }

    private int backIn(int firm, int year) {
        int back = 0;
        for (int joined = 0; joined < now.joins; joined++) {
            Join of = now.join[joined];
            if (of.firm == firm && of.back != NONE && courseOf(joined).last / YEAR == year) {
                back += of.back;
            }
        }
        return back;
    }

    // ---- WAYS, PLACES, TRIALS, draws ----

    public int way(int hand, int paper, int what) {
        if (!isHand(hand) || !isWithin(paper, 0, PAPERS - 1) || !isWithin(what, 0, 1)) {
            return NONE;
        }
        if ((papersOf(hand, now.clock) >> paper & 1) == 1) {
            return what == 0 ? now.clock : 0;
        }
        for (int course = 0; course < now.courses; course++) {
            ways.lacked[course] = courses[course].wants & ~papersOf(hand, courses[course].first);
        }
        ways.seek(courses, now.courses, now.clock, paper);
        return what == 0 ? ways.last : ways.count;
    }

    public int places(int coins, int what) {
        if (!isWithin(coins, 0, COINS) || !isWithin(what, COST_TOGETHER, TRADES - 1)) {
            return NO_PLACES;
        }
        choice.choose(now.lack, now.cost, now.worth, coins);
        if (what == COST_TOGETHER) {
            return choice.together(now.cost);
        }
        return what == NONE ? choice.together(now.worth) : choice.chosen[what];
    }

    public long proves(int coins, int a, int b) {
        if (!isWithin(coins, 0, COINS) || !isWithin(a, 0, 1000) || !isWithin(b, 1, 1000)) {
            return NONE;
        }
        long bound = (long) a * coins;
        for (int trade = 0; trade < TRADES; trade++) {
            int above = b * now.worth[trade] - a * now.cost[trade];
            bound += (long) now.lack[trade] * Math.max(above, 0);
        }
        return bound / b;
    }

    public boolean result(int firm, int v) {
        if (!isFirm(firm) || !isWithin(v, -MOST_RESULT, MOST_RESULT)) {
            return false;
        }
        now.result[firm] = v;
        return true;
    }

    public int trial(int firms, int treated, int what) {
        int size = Integer.bitCount(firms);
        int many = Integer.bitCount(treated);
        boolean told = (firms >>> now.firms) == 0 && isWithin(size, 2, MOST_TRIED_FIRMS)
            && (treated & ~firms) == 0 && isWithin(many, 1, size - 1) && isWithin(what, 0, 3);
        if (!told) {
            return NO_TRIAL;
        }
        int chosen = gatherTried(firms, treated);
        int effect = effectOf(chosen, size);
        if (what == 0) {
            return effect;
        }
        int like = 0;
        int choices = 0;
        for (int set = 0; set < 1 << size; set++) {
            if (Integer.bitCount(set) == many) {
                choices++;
                like += Math.abs(effectOf(set, size)) >= Math.abs(effect) ? 1 : 0;
            }
        }
        if (what == 3) {
            return 20 * like <= choices ? 1 : 0;
        }
        return what == 1 ? like : choices;
    }

    /** Puts the RESULTS of these FIRMS side by side; answers which of those places are TREATED. */
    private int gatherTried(int firms, int treated) {
        int size = 0;
        int chosen = 0;
        for (int firm = 0; firm < now.firms && size < MOST_TRIED_FIRMS; firm++) {
            if ((firms >> firm & 1) == 1) {
                results[size] = now.result[firm];
                chosen |= (treated >> firm & 1) << size;
                size++;
            }
        }
        return chosen;
    }

    private int effectOf(int chosen, int size) {
        int many = Integer.bitCount(chosen);
        int effect = 0;
        for (int i = 0; i < size; i++) {
            effect += (chosen >> i & 1) == 1 ? results[i] * (size - many) : -results[i] * many;
        }
        return effect;
    }

    public int drawn(int n, int seed, int i) {
        int many = orderClaimed();
        if (!isWithin(n, 1, many) || !isWithin(i, 0, n - 1)) {
            return NONE;
        }
        int s = seed;
        for (int place = 0; place < n; place++) {
            s = s * 1103515245 + 12345;
            int other = place + (s >>> 16) % (many - place);
            int moved = order[place];
            order[place] = order[other];
            order[other] = moved;
        }
        return order[i];
    }

    /** Puts those CLAIMED now in the order in which they JOINED; answers how many they are. */
    private int orderClaimed() {
        int many = 0;
        for (int joined = 0; joined < now.joins; joined++) {
            if (now.join[joined].back != NONE) {
                order[many] = joined;
                many++;
            }
        }
        return many;
    }

    // ---- What another TEXT would have done, SHEETS, IMAGES ----

    public long tried(int text, int what) {
        if (!isWithin(text, 0, now.texts - 1) || !isWithin(what, 0, 1)) {
            return NONE;
        }
        return what == 0 ? leviesBy(text) : backBy(text);
    }

    private long leviesBy(int text) {
        long levies = 0;
        for (int month = 0; month < now.clock; month++) {
            for (int firm = 0; firm < past.firms[month]; firm++) {
                law.putFirm(past.wagesOf(firm, month), past.headsOf(firm, month), past.paidAhead(firm, month), month);
                levies += law.levyBy(text, text);
            }
        }
        return levies;
    }

    private long backBy(int text) {
        long back = 0;
        for (int joined = 0; joined < now.joins; joined++) {
            if (now.join[joined].back != NONE) {
                putNamesOf(joined);
                back += clipped(law.answer(text, BACK), MOST_DUE);
            }
        }
        return back;
    }

    public boolean sheet(int year) {
        if (!isYear(year)) {
            return false;
        }
        taken.year = year;
        for (int firm = 0; firm < FIRMS; firm++) {
            taken.paid[firm] = paidIn(firm, year);
            taken.back[firm] = backIn(firm, year);
        }
        return true;
    }

    public boolean alter(int firm, boolean back, int mask) {
        if (!isWithin(firm, 0, FIRMS - 1) || mask == 0 || taken.year == NONE) {
            return false;
        }
        if (back) {
            taken.back[firm] ^= mask;
        } else {
            taken.paid[firm] ^= mask;
        }
        return true;
    }

    public int check(int what) {
        if (!isWithin(what, 0, 2) || taken.year == NONE) {
            return NONE;
        }
        int other = 0;
        int firmOfOne = NONE;
        int sideOfOne = NONE;
        for (int firm = 0; firm < FIRMS; firm++) {
            if (taken.paid[firm] != paidIn(firm, taken.year)) {
                other++;
                firmOfOne = firm;
                sideOfOne = 0;
            }
            if (taken.back[firm] != backIn(firm, taken.year)) {
                other++;
                firmOfOne = firm;
                sideOfOne = 1;
            }
        }
        if (what == 0) {
            return other;
        }
        if (other != 1) {
            return NONE;
        }
        return what == 1 ? firmOfOne : sideOfOne;
    }

    public int image() {
        kept.takeAll(now);
        return now.clock;
    }

    public int back() {
        now.takeAll(kept);
        return now.clock;
    }

    // ---- What is one ----

    private static boolean isWithin(int value, int least, int most) {
        return value >= least && value <= most;
    }

    private static int clipped(int value, int most) {
        return Math.max(0, Math.min(value, most));
    }

    private static boolean isMonth(int month) {
        return isWithin(month, 0, MONTHS - 1);
    }

    private static boolean isYear(int year) {
        return isWithin(year, 0, YEARS - 1);
    }

    private boolean isFirm(int firm) {
        return isWithin(firm, 0, now.firms - 1);
    }

    private boolean isFirmOrNone(int firm) {
        return firm == NONE || isFirm(firm);
    }

    private boolean isHand(int hand) {
        return isWithin(hand, 0, now.hands - 1);
    }

    private boolean isCourse(int course) {
        return isWithin(course, 0, now.courses - 1);
    }

    /** Whether this was JOINED and not given up. */
    private boolean isStanding(int joined) {
        return isWithin(joined, 0, now.joins - 1) && !now.join[joined].givenUp;
    }

    private Course courseOf(int joined) {
        return courses[now.join[joined].course];
    }

    private static final class Course {
        int trainer;
        int trade;
        int hours;
        int seats;
        int price;
        int first;
        int last;
        int gives;
        int wants;
    }

    private static final class Hand {
        int age;
        int trade;
        int wage;
        int firm;
        int owes;

        void takeFrom(Hand other) {
            age = other.age;
            trade = other.trade;
            wage = other.wage;
            firm = other.firm;
            owes = other.owes;
        }
    }

    /** A HAND in a COURSE; back is NONE as long as it isn't CLAIMED. */
    private static final class Join {
        int hand;
        int course;
        int firm;
        int lost;
        int mark;
        boolean passed;
        int back;
        boolean givenUp;
        boolean settled;

        void takeFrom(Join other) {
            hand = other.hand;
            course = other.course;
            firm = other.firm;
            lost = other.lost;
            mark = other.mark;
            passed = other.passed;
            back = other.back;
            givenUp = other.givenUp;
            settled = other.settled;
        }
    }

    /**
     * All that an IMAGE holds. Of COURSES, TEXTS, RULINGS and MONTHS gone by it is enough to hold how many there are:
     * they never change and new ones come behind, so those that an image counts stand as long as it can be gone back to.
     */
    private static final class Board {
        int clock;
        int firms;
        int hands;
        int courses;
        int texts;
        int rulings;
        int joins;
        long fund;
        final int[] lack = new int[TRADES];
        final int[] cost = new int[TRADES];
        final int[] worth = new int[TRADES];
        final int[] life = new int[PAPERS];
        final int[] result = new int[FIRMS];
        // By whom it is owed stands one place on: place 0 is for HANDS themselves.
        final int[][] owed = new int[FIRMS][FIRMS + 1];
        final Hand[] hand = new Hand[HANDS];
        final Join[] join = new Join[JOINS];

        Board() {
            Arrays.fill(cost, 1);
            Arrays.fill(worth, 1);
            for (int i = 0; i < HANDS; i++) {
                hand[i] = new Hand();
            }
            for (int i = 0; i < JOINS; i++) {
                join[i] = new Join();
            }
        }

        void takeAll(Board other) {
            clock = other.clock;
            firms = other.firms;
            hands = other.hands;
            courses = other.courses;
            texts = other.texts;
            rulings = other.rulings;
            joins = other.joins;
            fund = other.fund;
            System.arraycopy(other.lack, 0, lack, 0, TRADES);
            System.arraycopy(other.cost, 0, cost, 0, TRADES);
            System.arraycopy(other.worth, 0, worth, 0, TRADES);
            System.arraycopy(other.life, 0, life, 0, PAPERS);
            System.arraycopy(other.result, 0, result, 0, FIRMS);
            for (int i = 0; i < FIRMS; i++) {
                System.arraycopy(other.owed[i], 0, owed[i], 0, FIRMS + 1);
            }
            for (int i = 0; i < HANDS; i++) {
                hand[i].takeFrom(other.hand[i]);
            }
            for (int i = 0; i < JOINS; i++) {
                join[i].takeFrom(other.join[i]);
            }
        }
    }

    /** Of each MONTH gone by and each FIRM that was there then: its WAGES, heads, and PAID in the YEAR with that MONTH. */
    private static final class Past {
        final int[] firms = new int[MONTHS];
        final int[] wages = new int[MONTHS * FIRMS];
        final int[] heads = new int[MONTHS * FIRMS];
        final int[] paid = new int[MONTHS * FIRMS];

        void put(int firm, int month, int wagesThen, int headsThen, int paidThen) {
            int place = month * FIRMS + firm;
            wages[place] = wagesThen;
            heads[place] = headsThen;
            paid[place] = paidThen;
        }

        int wagesOf(int firm, int month) {
            return wages[month * FIRMS + firm];
        }

        int headsOf(int firm, int month) {
            return heads[month * FIRMS + firm];
        }

        int paidWith(int firm, int month) {
            return firm < firms[month] ? paid[month * FIRMS + firm] : 0;
        }

        int paidAhead(int firm, int month) {
            return month % YEAR == 0 ? 0 : paidWith(firm, month - 1);
        }
    }

    /** THE SHEET; its year is NONE as long as none was taken. */
    private static final class Sheet {
        int year = NONE;
        final int[] paid = new int[FIRMS];
        final int[] back = new int[FIRMS];
    }

    /** The TEXTS, the RULINGS, and the NAMES by which a CLAUSE answers. */
    private static final class Law {
        static final String WITHOUT = "member 0 = 0; levy wages / 100; back hours; stay 0; cap paid; proof 6; mark 50;";

        final Text[] texts = new Text[TEXTS];
        final Text without = new Text();
        final int[] text = new int[RULINGS];
        final int[] from = new int[RULINGS];
        final int[] told = new int[RULINGS];
        final int[] names = new int[NAMES];
        final int[] stack = new int[Text.STACK];

        Law() {
            for (int i = 0; i < TEXTS; i++) {
                texts[i] = new Text();
            }
        }

        /** The TEXT of THE RULE, among the first RULINGS. */
        int textFor(int sort, int month, int known, int rulings) {
            int best = NONE;
            for (int i = 0; i < rulings; i++) {
                boolean holds = told[i] <= known && from[i] <= month && texts[text[i]].hasSort(sort);
                if (holds && (best == NONE || from[i] >= from[best])) {
                    best = i;
                }
            }
            return best == NONE ? NONE : text[best];
        }

        void putFirm(int wages, int heads, int paid, int month) {
            names[WAGES] = wages;
            names[HEADS] = heads;
            names[PAID] = paid;
            names[MONTH] = month;
        }

        int answer(int number, int sort) {
            if (number != NONE && texts[number].hasSort(sort)) {
                return texts[number].answer(sort, names, stack);
            }
            return without.answer(sort, names, stack);
        }

        int levyBy(int memberText, int levyText) {
            return answer(memberText, MEMBER) == 1 ? clipped(answer(levyText, LEVY), MOST_DUE) : 0;
        }
    }

    /** CLAUSES, each as NUMBERS, NAMES and OPERATORS in the order in which a stack takes them. */
    private static final class Text {
        static final int FIRST_NAME = 10000;
        static final int FIRST_OPERATOR = 20000;
        static final int MOST_VALUE = 1000000000;
        // 9 levels of brackets, of each the SUM, the PRODUCT and one side of min, and what or, and, < wait for.
        static final int STACK = 40;

        final int[] code = new int[TAPE];
        final int[] begin = new int[SORTS];
        final int[] stop = new int[SORTS];
        int used;

        void clear() {
            used = 0;
            Arrays.fill(begin, NONE);
        }

        boolean hasSort(int sort) {
            return begin[sort] != NONE;
        }

        void open(int sort) {
            begin[sort] = used;
        }

        void close(int sort) {
            stop[sort] = used;
        }

        void add(int word) {
            if (used < TAPE) {
                code[used] = word;
                used++;
            }
        }

        int answer(int sort, int[] names, int[] stack) {
            int top = 0;
            for (int i = begin[sort]; i < stop[sort]; i++) {
                int word = code[i];
                if (word < FIRST_OPERATOR) {
                    if (top < STACK) {
                        stack[top] = word < FIRST_NAME ? word : names[word - FIRST_NAME];
                        top++;
                    }
                } else if (word == FIRST_OPERATOR + Reader.NEGATE || word == FIRST_OPERATOR + Reader.NOT) {
                    if (top > 0) {
                        stack[top - 1] = word == FIRST_OPERATOR + Reader.NOT ? 1 - stack[top - 1] : -stack[top - 1];
                    }
                } else if (top > 1) {
                    top--;
                    long value = joinTwo(word - FIRST_OPERATOR, stack[top - 1], stack[top]);
                    stack[top - 1] = (int) Math.max(-MOST_VALUE, Math.min(value, MOST_VALUE));
                }
            }
            return top > 0 ? stack[top - 1] : 0;
        }

        private static long joinTwo(int operator, long left, long right) {
            switch (operator) {
                case '+': return left + right;
                case '-': return left - right;
                case '*': return left * right;
                case '/': return right == 0 ? 0 : left / right;
                case '<': return left < right ? 1 : 0;
                case '>': return left > right ? 1 : 0;
                case '=': return left == right ? 1 : 0;
                case '#': return left != right ? 1 : 0;
                case Reader.AT_MOST: return left <= right ? 1 : 0;
                case Reader.AT_LEAST: return left >= right ? 1 : 0;
                case Reader.OR: return left | right;
                case Reader.AND: return left & right;
                case Reader.MIN: return Math.min(left, right);
                case Reader.MAX: return Math.max(left, right);
                default: return 0;
            }
        }
    }

    /** The tape, and what reads it into a TEXT; what stands behind the first FAULT counts no more. */
    private static final class Reader {
        static final int CANNOT_STAND = 1;
        static final int WRONG_NUMBER = 2;
        static final int TOO_DEEP = 3;
        static final int SECOND_TIME = 4;
        static final int NOT_A_FIRMS = 5;
        static final int MOST_OPEN = 8;
        static final int MOST_NUMBER = 9999;
        static final int MOST_PROOF = 60;

        // Kinds of TOKEN; a sign of one byte has that byte as its kind, a word FIRST_WORD and its place in WORDS.
        static final int END = 0;
        static final int NO_TOKEN = 1;
        static final int AT_MOST = 128;
        static final int AT_LEAST = 129;
        static final int NUMBER = 130;
        static final int NEGATE = 131;
        static final int FIRST_WORD = 200;
        static final int FIRST_NAME = FIRST_WORD + SORTS;
        static final int OR = FIRST_NAME + NAMES;
        static final int AND = OR + 1;
        static final int NOT = OR + 2;
        static final int MIN = OR + 3;
        static final int MAX = OR + 4;
        static final int WIDTH = 7;
        // The sorts of CLAUSE, the NAMES, and the other words, each in a cell of its own width.
        static final String WORDS =
            "member levy   back   stay   cap    proof  mark   wages  heads  paid   month  hours  price  age    trade  lack   or     and    not    min    max    ";
        static final String SIGNS = "<>=#+-*/(),;";

        final byte[] tape = new byte[TAPE];
        // Of each TOKEN, and of the end behind them: its kind, its first byte, and of a NUMBER what it is.
        final int[] kinds = new int[TAPE + 1];
        final int[] starts = new int[TAPE + 1];
        final int[] numbers = new int[TAPE + 1];
        int length;
        int fault = NONE;
        int place = NONE;
        int at;
        int tokens;
        int token;
        int kind;
        int open;
        int sort;
        Text into;

        void putByte(int value) {
            if (length < TAPE) {
                tape[length] = (byte) value;
                length++;
            }
        }

        void putWord(int word) {
            putByte(word >> 24);
            putByte(word >> 16);
            putByte(word >> 8);
            putByte(word);
        }

        void putLine(String line) {
            for (int i = 0; i < line.length(); i++) {
                putByte(line.charAt(i));
            }
        }

        /** As if nothing had been read. */
        void forget() {
            length = 0;
            fault = NONE;
            place = NONE;
        }

        void readInto(Text text) {
            scan();
            into = text;
            into.clear();
            fault = 0;
            place = NONE;
            open = 0;
            token = 0;
            kind = kinds[0];
            for (int n = 0; n < TAPE && kind != END && fault == 0; n++) {
                readClause();
            }
        }

        private void readClause() {
            sort = kind - FIRST_WORD;
            if (sort < 0 || sort >= SORTS) {
                fail(CANNOT_STAND);
                return;
            }
            if (into.hasSort(sort)) {
                fail(SECOND_TIME);
                return;
            }
            into.open(sort);
            step();
            switch (sort) {
                case MEMBER: readEither(); break;
                case PROOF: readNumber(MOST_PROOF); break;
                case MARK: readNumber(MOST_MARK); break;
                default: readSum(); break;
            }
            into.close(sort);
            pass(';');
        }

        /** Reads what or and and join; an or waits until what and joins behind it stands. */
        private void readEither() {
            boolean waits = false;
            readAsk();
            for (int n = 0; n < TAPE && (kind == OR || kind == AND); n++) {
                boolean either = kind == OR;
                if (either && waits) {
                    addOperator(OR);
                }
                waits = waits || either;
                step();
                readAsk();
                if (!either) {
                    addOperator(AND);
                }
            }
            if (waits) {
                addOperator(OR);
            }
        }

        private void readAsk() {
            if (kind == NOT) {
                goDeeper();
                readAsk();
                goOut(NOT);
                return;
            }
            readSum();
            int operator = kind;
            if (operator == '<' || operator == '>' || operator == '=' || operator == '#' || operator == AT_MOST
                    || operator == AT_LEAST) {
                step();
                readSum();
                addOperator(operator);
            } else {
                fail(CANNOT_STAND);
            }
        }

        private void readSum() {
            readProduct();
            for (int n = 0; n < TAPE && (kind == '+' || kind == '-'); n++) {
                int operator = kind;
                step();
                readProduct();
                addOperator(operator);
            }
        }

        private void readProduct() {
            readOne();
            for (int n = 0; n < TAPE && (kind == '*' || kind == '/'); n++) {
                int operator = kind;
                step();
                readOne();
                addOperator(operator);
            }
        }

        private void readOne() {
            if (kind == NUMBER) {
                readNumber(MOST_NUMBER);
            } else if (kind >= FIRST_NAME && kind < OR) {
                readName(kind - FIRST_NAME);
            } else if (kind == '(') {
                goDeeper();
                readSum();
                pass(')');
                open--;
            } else if (kind == '-') {
                goDeeper();
                readOne();
                goOut(NEGATE);
            } else if (kind == MIN || kind == MAX) {
                readPair(kind);
            } else {
                fail(CANNOT_STAND);
            }
        }

        private void readPair(int operator) {
            step();
            if (kind != '(') {
                fail(CANNOT_STAND);
                return;
            }
            goDeeper();
            readSum();
            pass(',');
            readSum();
            pass(')');
            goOut(operator);
        }

        private void readNumber(int most) {
            if (kind != NUMBER) {
                fail(CANNOT_STAND);
            } else if (numbers[token] > most) {
                fail(WRONG_NUMBER);
            } else {
                into.add(numbers[token]);
                step();
            }
        }

        private void readName(int name) {
            boolean ofFirmsAlone = sort == MEMBER || sort == LEVY || sort == CAP;
            if (name >= FIRM_NAMES && ofFirmsAlone) {
                fail(NOT_A_FIRMS);
            } else {
                into.add(Text.FIRST_NAME + name);
                step();
            }
        }

        /** Goes into what ( not or - opens, unless too many are open around it. */
        private void goDeeper() {
            if (open >= MOST_OPEN) {
                fail(TOO_DEEP);
            }
            open++;
            step();
        }

        private void goOut(int operator) {
            into.add(Text.FIRST_OPERATOR + operator);
            open--;
        }

        private void pass(int due) {
            if (kind == due) {
                step();
            } else {
                fail(CANNOT_STAND);
            }
        }

        private void addOperator(int operator) {
            into.add(Text.FIRST_OPERATOR + operator);
        }

        /** The first FAULT stays; from it on all is like the end, at which no rule of the grammar goes on. */
        private void fail(int what) {
            if (fault == 0) {
                fault = what;
                place = starts[token];
                token = tokens;
                kind = END;
            }
        }

        private void step() {
            if (token < tokens) {
                token++;
                kind = kinds[token];
            }
        }

        /** Cuts the tape into TOKENS; there are never more of them than bytes. */
        private void scan() {
            at = 0;
            for (int n = 0; n <= TAPE; n++) {
                while (at < length && (tape[at] == ' ' || tape[at] == '\n')) {
                    at++;
                }
                starts[n] = at;
                tokens = n;
                if (at >= length) {
                    kinds[n] = END;
                    return;
                }
                if (isLetter(tape[at])) {
                    takeWord();
                } else if (isDigit(tape[at])) {
                    takeNumber();
                } else {
                    takeSign();
                }
            }
        }

        private void takeWord() {
            int start = at;
            while (at < length && isLetter(tape[at])) {
                at++;
            }
            kinds[tokens] = NO_TOKEN;
            for (int word = 0; (word + 1) * WIDTH <= WORDS.length(); word++) {
                if (isSpelt(word, start, at - start)) {
                    kinds[tokens] = FIRST_WORD + word;
                }
            }
        }

        private boolean isSpelt(int word, int start, int size) {
            if (size >= WIDTH || WORDS.charAt(word * WIDTH + size) != ' ') {
                return false;
            }
            for (int i = 0; i < size; i++) {
                if (WORDS.charAt(word * WIDTH + i) != tape[start + i]) {
                    return false;
                }
            }
            return true;
        }

        private void takeNumber() {
            int number = 0;
            while (at < length && isDigit(tape[at])) {
                number = Math.min(number * 10 + tape[at] - '0', MOST_NUMBER + 1);
                at++;
            }
            kinds[tokens] = NUMBER;
            numbers[tokens] = number;
        }

        private void takeSign() {
            char sign = (char) (tape[at] & 255);
            kinds[tokens] = SIGNS.indexOf(sign) >= 0 ? sign : NO_TOKEN;
            at++;
            if (at < length && tape[at] == '=' && (sign == '<' || sign == '>')) {
                kinds[tokens] = sign == '<' ? AT_MOST : AT_LEAST;
                at++;
            }
        }

        private static boolean isLetter(int value) {
            return isWithin(value, 'a', 'z') || isWithin(value, 'A', 'Z');
        }

        private static boolean isDigit(int value) {
            return isWithin(value, '0', '9');
        }
    }

    /**
     * The least way to a PAPER. A COURSE that gives what came on the way already can be left out of it, so a way is told
     * by the set of PAPERS that came on it, and of ways with the same set the one that is over first is the best.
     */
    private static final class Ways {
        static final int NEVER = MONTHS;

        final int[] lacked = new int[COURSES];
        final int[] over = new int[PAPER_SETS];
        int last;
        int count;

        /** Seeks by those PAPERS of each COURSE that are lacked, unless they come on the way. */
        void seek(Course[] courses, int many, int from, int paper) {
            Arrays.fill(over, NEVER);
            over[0] = from - 1;
            last = NONE;
            count = NONE;
            for (int set = 0; set < PAPER_SETS; set++) {
                if (over[set] == NEVER) {
                    continue;
                }
                if ((set >> paper & 1) == 1) {
                    pick(set);
                    continue;
                }
                for (int course = 0; course < many; course++) {
                    goOn(set, courses[course], lacked[course]);
                }
            }
        }

        private void goOn(int set, Course course, int lack) {
            int gained = set | 1 << course.gives;
            if (gained != set && course.first > over[set] && (lack & ~set) == 0) {
                over[gained] = Math.min(over[gained], course.last);
            }
        }

        private void pick(int set) {
            int size = Integer.bitCount(set);
            if (last == NONE || over[set] < last || (over[set] == last && size < count)) {
                last = over[set];
                count = size;
            }
        }
    }

    /** The best choice of PLACES. */
    private static final class Places {
        // A COST together is below this, so of two scores the one with more WORTH is above, of like ones that with less COST.
        static final int WORTH_STEP = 4096;
        static final int ROW = COINS + 1;

        // Place t * ROW + c: the best score of TRADES t and on for c coins.
        final int[] best = new int[(TRADES + 1) * ROW];
        final int[] chosen = new int[TRADES];

        void choose(int[] lack, int[] cost, int[] worth, int coins) {
            for (int trade = TRADES - 1; trade >= 0; trade--) {
                System.arraycopy(best, (trade + 1) * ROW, best, trade * ROW, coins + 1);
                offerAll(trade, lack[trade], cost[trade], worth[trade] * WORTH_STEP - cost[trade], coins);
            }
            int left = coins;
            for (int trade = 0; trade < TRADES; trade++) {
                chosen[trade] = fewest(trade, lack[trade], cost[trade], worth[trade] * WORTH_STEP - cost[trade], left);
                left -= chosen[trade] * cost[trade];
            }
        }

        /** Offers bundles of 1, 2, 4 and so on: any number up to the lack is made of some of them. */
        private void offerAll(int trade, int lack, int cost, int score, int coins) {
            int left = lack;
            for (int bundle = 1; left > 0 && bundle <= MOST_LACK; bundle *= 2) {
                int many = Math.min(bundle, left);
                offer(trade * ROW, many * cost, many * score, coins);
                left -= many;
            }
        }

        private void offer(int row, int cost, int score, int coins) {
            for (int c = coins; c >= cost; c--) {
                best[row + c] = Math.max(best[row + c], best[row + c - cost] + score);
            }
        }

        private int fewest(int trade, int lack, int cost, int score, int coins) {
            for (int many = 0; many <= lack && many * cost <= coins; many++) {
                if (many * score + best[(trade + 1) * ROW + coins - many * cost] == best[trade * ROW + coins]) {
                    return many;
                }
            }
            return 0;
        }

        int together(int[] each) {
            int sum = 0;
            for (int trade = 0; trade < TRADES; trade++) {
                sum += chosen[trade] * each[trade];
            }
            return sum;
        }
    }
}
