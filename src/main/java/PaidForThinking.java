import java.util.Arrays;
import java.util.NoSuchElementException;

public final class PaidForThinking {
    public static final int NONE = -1;

    private static final int NOT_SO = -2;
    private static final int TOO_MANY = -3;
    private static final int MISSING = -3;
    private static final int NO_SUCH_PAY = -100;
    private static final int MOST_EVENTS = 4;
    private static final int MOST_STEPS = 12;
    private static final int MOST_SAYINGS = 455;
    private static final int MOST_PAIRED = 91;
    private static final int TURNS = MOST_STEPS + 1;
    private static final int PAYS = 4;
    private static final int MOST_PEOPLE = 6;
    private static final int MOST_EVENINGS = 40;
    private static final int WORDS = 6;
    private static final int KEPT = 3;
    private static final int SIZE = 9999;
    private static final int MOST_TIMES = 9999;
    private static final int MOST_GIFT = 9999;

    private final Sayings sayings;
    private final Held held;
    private final Held[] kept;
    private final boolean[] isKept;
    private final Text text;
    private final Pays pays;
    private final Row told;
    private final Judge judge;
    private final Lures lures;
    private final Contest contest;
    private final Chooser chooser;
    private final Ledger ledger;

    public PaidForThinking() {
        Sayings all = new Sayings();
        Held now = new Held();
        Tally tally = new Tally(all);
        Judge weighing = new Judge(all, tally);
        sayings = all;
        held = now;
        kept = new Held[KEPT];
        for (int i = 0; i < KEPT; i++) {
            kept[i] = new Held();
        }
        isKept = new boolean[KEPT];
        text = new Text();
        pays = new Pays(all, now);
        told = new Row();
        judge = weighing;
        lures = new Lures(all, tally, weighing);
        contest = new Contest(all, now);
        chooser = new Chooser(all, tally, weighing);
        ledger = new Ledger(all, now, tally, weighing);
    }

    // ---- events, sayings, pays

    public int table(int events, int steps) {
        if (!within(events, 2, MOST_EVENTS) || !within(steps, 1, MOST_STEPS)) {
            return NONE;
        }
        sayings.lay(events, steps);
        held.dropAllButTurn();
        pays.dropMade();
        for (int i = 0; i < KEPT; i++) {
            isKept[i] = false;
        }
        return sayings.size;
    }

    public int saying(int a, int b, int c, int d) {
        return sayings.numberOf(a, b, c, d);
    }

    public int part(int saying, int event) throws NoSuchElementException {
        if (!sayings.has(saying) || !sayings.hasEvent(event)) {
            throw new NoSuchElementException("no such part");
        }
        return sayings.partOf(saying, event);
    }

    public int turn(int at, int v) {
        if (!within(at, 0, TURNS - 1) || !within(v, -SIZE, SIZE)) {
            return NONE;
        }
        int was = held.turns[at];
        held.turns[at] = v;
        pays.turnChanged();
        return was;
    }

    public int sheet(int kind, int n, int f, int step) {
        if (!within(kind, 0, 3) || n > TURNS) {
            return NONE;
        }
        boolean missing = kind == 3;
        if (!missing && n < 0) {
            return NOT_SO;
        }
        int sum = held.readSheet(kind, missing ? 0 : n, f, step);
        pays.turnChanged();
        return missing ? MISSING : sum;
    }

    public int sign(int v) {
        return text.addFour(v);
    }

    public boolean end(int n) {
        return text.cutTo(n);
    }

    public int pay(int i) {
        int answer = within(i, 0, PAYS - 1) ? tellPay(i) : NO_SUCH_PAY;
        text.empty();
        return answer;
    }

    public int gets(int pay, int saying, int event) throws NoSuchElementException {
        int[] values = pays.valuesOf(pay);
        if (values == null || !sayings.has(saying) || !sayings.hasEvent(event)) {
            throw new NoSuchElementException("no such pay, saying or event");
        }
        return values[saying * MOST_EVENTS + event];
    }

    public int ends(int pay) {
        int[] values = pays.valuesOf(pay);
        if (values == null) {
            return NONE;
        }
        int least = pays.leastAt(values);
        told.clear();
        told.add(values[least]);
        told.add(pays.greatestOf(values));
        told.add(least / MOST_EVENTS);
        told.add(least % MOST_EVENTS);
        return 0;
    }

    // ---- what is best

    public int mean(int pay, int saying, int thought) {
        int[] values = pays.valuesOf(pay);
        if (values == null || !sayings.has(saying) || !sayings.has(thought)) {
            return NONE;
        }
        told.clear();
        told.addFraction(judge.worth(values, saying, thought), sayings.steps);
        return 0;
    }

    public int best(int pay, int thought) {
        int[] values = pays.valuesOf(pay);
        if (values == null || !sayings.has(thought)) {
            return NONE;
        }
        return judge.tellBest(values, thought, told);
    }

    public int loses(int pay, int saying, int thought) {
        int[] values = pays.valuesOf(pay);
        if (values == null || !sayings.has(saying) || !sayings.has(thought)) {
            return NONE;
        }
        long lost = judge.greatestWorth(values, thought) - judge.worth(values, saying, thought);
        told.clear();
        told.addFraction(lost, sayings.steps);
        return 0;
    }

    public int truly(int pay) {
        int[] values = pays.valuesOf(pay);
        return values == null ? NONE : judge.tellTruth(values, told);
    }

    public int bends(int pay) {
        int[] values = pays.valuesOf(pay);
        return values == null ? NONE : judge.tellBends(values, told);
    }

    public int could(int pay, int saying) {
        int[] values = pays.valuesOf(pay);
        if (values == null || !sayings.has(saying)) {
            return NONE;
        }
        return judge.tellThoughtsFor(values, saying, told);
    }

    public int same(int one, int other) {
        int[] first = pays.valuesOf(one);
        int[] second = pays.valuesOf(other);
        if (first == null || second == null) {
            return NONE;
        }
        return judge.differsByEventAlone(first, 1, second) ? 1 : 0;
    }

    public int alike(int one, int other) {
        int[] first = pays.valuesOf(one);
        int[] second = pays.valuesOf(other);
        if (first == null || second == null) {
            return NONE;
        }
        return judge.tellFactor(first, second, told);
    }

    // ---- made of a table (two EVENTS)

    public int make(int i) {
        if (!within(i, 0, PAYS - 1) || sayings.events != 2) {
            return NONE;
        }
        return pays.makeOfTurn(i) ? 1 : 0;
    }

    public int back(int pay) {
        int[] values = pays.valuesOf(pay);
        if (values == null || sayings.events != 2) {
            return NONE;
        }
        told.clear();
        for (int k = 0; k <= sayings.steps; k++) {
            told.add(judge.greatestWorth(values, sayings.steps - k));
        }
        return told.isBent() ? 1 : 0;
    }

    public boolean take(int pay) {
        int[] values = pays.valuesOf(pay);
        if (values == null || sayings.events != 2 || !judge.fitsTurn(values)) {
            return false;
        }
        for (int k = 0; k <= sayings.steps; k++) {
            held.turns[k] = (int) judge.turnOf(values, k);
        }
        pays.turnChanged();
        return true;
    }

    public boolean mix(int i, int one, int other, int a, int b) {
        int[] first = pays.valuesOf(one);
        int[] second = pays.valuesOf(other);
        if (first == null || second == null || !within(i, 0, PAYS - 1)) {
            return false;
        }
        if (!within(a, -9, 9) || !within(b, -9, 9)) {
            return false;
        }
        pays.makeOfTwo(i, first, second, a, b);
        return true;
    }

    public int lift(int i, int pay) {
        int[] values = pays.valuesOf(pay);
        if (values == null || !within(i, 0, PAYS - 1)) {
            return NONE;
        }
        return pays.makeLifted(i, values);
    }

    public int rank(int pay, int thought, int k) {
        int[] values = pays.valuesOf(pay);
        if (values == null || !sayings.has(thought) || k < 0) {
            return NONE;
        }
        if (k >= sayings.size) {
            return NOT_SO;
        }
        return judge.tellRanked(values, thought, k, told);
    }

    // ---- looking

    public int look(int pay, int thought, int lights, int cost) {
        int[] values = pays.valuesOf(pay);
        if (values == null || !isLook(thought, lights, cost)) {
            return NONE;
        }
        long more = lures.gainOfLooking(values, thought, lights);
        told.clear();
        told.add(more);
        told.add(lures.timesForCost(more, cost));
        return 0;
    }

    public int purse(int thought, int lights, int cost) {
        if (!isLook(thought, lights, cost)) {
            return NONE;
        }
        int best = NOT_SO;
        int fewest = MOST_TIMES + 1;
        for (int pay = 0; pay < PAYS; pay++) {
            int[] values = pays.valuesOf(pay);
            if (values != null) {
                int times = lures.timesForCost(lures.gainOfLooking(values, thought, lights), cost);
                if (times != NONE && times < fewest) {
                    best = pay;
                    fewest = times;
                }
            }
        }
        if (best != NOT_SO) {
            told.clear();
            told.add(fewest);
        }
        return best;
    }

    // ---- one who minds loss, bribes, lots

    public int minds(int pay, int thought, int w) {
        int[] values = pays.valuesOf(pay);
        if (values == null || !sayings.has(thought) || !within(w, 1, 9)) {
            return NONE;
        }
        return lures.tellMinding(values, thought, w, told);
    }

    public int lot(int pay, int add, int top) {
        int[] values = pays.valuesOf(pay);
        if (values == null || !within(add, -SIZE, SIZE) || !within(top, 1, SIZE)) {
            return NONE;
        }
        long least = values[pays.leastAt(values)];
        long greatest = pays.greatestOf(values);
        told.clear();
        told.add(-least);
        told.add(greatest - least);
        return least + add >= 0 && greatest + add <= top ? 1 : 0;
    }

    public int bribe(int pay, int thought, int event, int least, int gift) {
        int[] values = pays.valuesOf(pay);
        if (values == null || !sayings.has(thought) || !sayings.hasEvent(event)) {
            return NONE;
        }
        if (!within(least, 0, MOST_STEPS) || !within(gift, 0, MOST_GIFT)) {
            return NONE;
        }
        lures.offer(event, least, gift);
        told.clear();
        told.add(lures.timesAgainstBribe(values, thought));
        return lures.bestBribed(values, thought);
    }

    public int safe(int pay) {
        int[] values = pays.valuesOf(pay);
        return values == null ? NONE : lures.greatestSafeGift(values);
    }

    // ---- several

    public int person(int thought) {
        if (!sayings.has(thought) || held.crowd >= MOST_PEOPLE) {
            return NONE;
        }
        held.people[held.crowd] = thought;
        held.crowd++;
        return held.crowd - 1;
    }

    public int go() {
        int were = held.crowd;
        held.dropPeople();
        return were;
    }

    public int prize(int pay, int who, int saying) {
        int[] values = pays.valuesOf(pay);
        if (values == null || !held.hasPerson(who) || !sayings.has(saying)) {
            return NONE;
        }
        return contest.prizeFor(values, who, saying);
    }

    public int boast(int pay, int who) {
        int[] values = pays.valuesOf(pay);
        if (values == null || !held.hasPerson(who)) {
            return NONE;
        }
        return contest.tellBoast(values, who, told);
    }

    public int rest(int pay) {
        int[] values = pays.valuesOf(pay);
        if (values == null || held.crowd == 0) {
            return NONE;
        }
        return contest.tellRest(values, told);
    }

    public int agree(int pay, int one, int other) {
        int[] values = pays.valuesOf(pay);
        if (values == null || !sayings.has(one) || !sayings.has(other)) {
            return NONE;
        }
        return contest.tellAgreed(values, one, other, told);
    }

    public int gain(int pay) {
        int[] values = pays.valuesOf(pay);
        if (values == null) {
            return NONE;
        }
        if (sayings.size > MOST_PAIRED) {
            return TOO_MANY;
        }
        return contest.tellGainingPairs(values, told);
    }

    public int peers(int pay, int one, int other) {
        int[] values = pays.valuesOf(pay);
        if (values == null || !sayings.has(one) || !sayings.has(other)) {
            return NONE;
        }
        if (sayings.size > MOST_PAIRED) {
            return TOO_MANY;
        }
        return contest.tellPeers(values, one, other, told);
    }

    // ---- who decides, a middle

    public int decide(int pay, int least, int then, int otherwise) {
        int[] values = pays.valuesOf(pay);
        if (values == null || !isDecision(least, then, otherwise)) {
            return NONE;
        }
        return chooser.tellDecided(values, least, then, otherwise, told);
    }

    public int coin(int pay, int least, int then, int otherwise) {
        int[] values = pays.valuesOf(pay);
        if (values == null || !isDecision(least, then, otherwise)) {
            return NONE;
        }
        return chooser.tellCoin(values, least, then, otherwise, told);
    }

    public int says(int pay, int thought) {
        int[] values = pays.valuesOf(pay);
        if (values == null || !sayings.has(thought)) {
            return NONE;
        }
        told.clear();
        told.add(sayings.leastMiddle(thought));
        told.add(sayings.mode(thought));
        return chooser.bestNumber(values, thought);
    }

    public int middle(int thought, int a, int b) {
        if (!sayings.has(thought) || !within(a, 0, 9) || !within(b, 0, 9)) {
            return NONE;
        }
        return chooser.tellMiddle(thought, a, b, told);
    }

    // ---- words, the book

    public boolean word(int i, int from, int to) {
        if (!within(i, 0, WORDS - 1) || from < 0 || from > to || to > sayings.steps) {
            return false;
        }
        held.setWord(i, from, to);
        return true;
    }

    public int words(int saying) {
        return sayings.has(saying) ? held.wordsFor(sayings.partOf(saying, 0)) : NONE;
    }

    public int evening(int who, int saying, int event) {
        if (!held.hasPerson(who) || !sayings.has(saying) || !sayings.hasEvent(event)) {
            return NONE;
        }
        return held.addEvening(who, saying, event) ? held.evenings : NONE;
    }

    public int forget() {
        if (held.evenings == 0) {
            return NONE;
        }
        held.evenings--;
        return held.evenings;
    }

    public int paid(int pay, int who) {
        int[] values = pays.valuesOf(pay);
        if (values == null || !held.hasPerson(who)) {
            return NONE;
        }
        return ledger.tellPaid(values, who, told);
    }

    public int first(int pay) {
        int[] values = pays.valuesOf(pay);
        return values == null ? NONE : ledger.tellFirst(values, told);
    }

    public int right(int who, int event, int k) {
        if (!held.hasPerson(who) || !sayings.hasEvent(event) || !within(k, 0, MOST_STEPS)) {
            return NONE;
        }
        return ledger.tellRight(who, event, k, told);
    }

    public int meant(int i) {
        return held.isWord(i) ? ledger.tellMeant(i, told) : NONE;
    }

    public int thinks(int pay, int who) {
        int[] values = pays.valuesOf(pay);
        if (values == null || !held.hasPerson(who)) {
            return NONE;
        }
        return ledger.tellThoughts(values, who, told);
    }

    // ---- kept

    public boolean keep(int i) {
        if (!within(i, 0, KEPT - 1)) {
            return false;
        }
        kept[i].copy(held);
        isKept[i] = true;
        return true;
    }

    public boolean again(int i) {
        if (!within(i, 0, KEPT - 1) || !isKept[i]) {
            return false;
        }
        held.copy(kept[i]);
        pays.turnChanged();
        return true;
    }

    public int count(int what) {
        switch (what) {
            case 0:
                return sayings.events;
            case 1:
                return sayings.steps;
            case 2:
                return sayings.size;
            case 3:
                return pays.bits();
            case 4:
                return held.crowd;
            case 5:
                return held.evenings;
            case 6:
                return held.wordBits;
            case 7:
                return told.size;
            case 8:
                return text.length;
            default:
                return NONE;
        }
    }

    public long row(int i) throws NoSuchElementException {
        if (!within(i, 0, told.size - 1)) {
            throw new NoSuchElementException("no such number");
        }
        return told.numbers[i];
    }

    // ---- what several calls ask

    private int tellPay(int i) {
        if (text.length == 0) {
            pays.drop(i);
            return 0;
        }
        int wrong = text.firstWrong();
        if (wrong != NONE) {
            return -1 - wrong;
        }
        pays.tell(i, text);
        return 0;
    }

    private boolean isLook(int thought, int lights, int cost) {
        return sayings.has(thought) && within(cost, 0, SIZE) && lures.areLights(lights);
    }

    private boolean isDecision(int least, int then, int otherwise) {
        return within(least, 0, MOST_STEPS) && sayings.has(then) && sayings.has(otherwise);
    }

    private static boolean within(int v, int low, int high) {
        return v >= low && v <= high;
    }

    /** The quotient cut to 0, and 0 by 0, so that no division can ever throw. */
    private static long cut(long upper, long lower) {
        return lower == 0 ? 0 : upper / lower;
    }

    /** EVENTS, STEPS and the PARTS of every SAYING, in one array for the largest table there is. */
    private static final class Sayings {
        private int events;
        private int steps;
        private int size;
        private final int[] parts = new int[MOST_SAYINGS * MOST_EVENTS];

        Sayings() {
            lay(2, 4);
        }

        void lay(int newEvents, int newSteps) {
            events = newEvents;
            steps = newSteps;
            size = 0;
            for (int a = 0; a <= steps; a++) {
                for (int b = 0; b <= steps - a; b++) {
                    for (int c = 0; c <= steps - a - b; c++) {
                        addIfThere(a, b, c, steps - a - b - c);
                    }
                }
            }
        }

        private void addIfThere(int a, int b, int c, int d) {
            boolean there = (events > 2 || c == 0) && (events > 3 || d == 0);
            if (!there || size >= MOST_SAYINGS) {
                return;
            }
            int at = size * MOST_EVENTS;
            parts[at] = a;
            parts[at + 1] = b;
            parts[at + 2] = c;
            parts[at + 3] = d;
            size++;
        }

        /** Looked for, not reckoned: so parts below 0 or of missing EVENTS need no test of their own. */
        int numberOf(int a, int b, int c, int d) {
            for (int s = 0; s < size; s++) {
                int at = s * MOST_EVENTS;
                if (parts[at] == a && parts[at + 1] == b && parts[at + 2] == c && parts[at + 3] == d) {
                    return s;
                }
            }
            return NONE;
        }

        boolean has(int saying) {
            return saying >= 0 && saying < size;
        }

        boolean hasEvent(int event) {
            return event >= 0 && event < events;
        }

        int partOf(int saying, int event) {
            return parts[saying * MOST_EVENTS + event];
        }

        int allTo(int event) {
            return numberOf(event == 0 ? steps : 0, event == 1 ? steps : 0,
                event == 2 ? steps : 0, event == 3 ? steps : 0);
        }

        int mode(int saying) {
            int mode = 0;
            for (int e = 1; e < events; e++) {
                if (partOf(saying, e) > partOf(saying, mode)) {
                    mode = e;
                }
            }
            return mode;
        }

        int leastMiddle(int saying) {
            int sum = 0;
            for (int e = 0; e < events; e++) {
                sum += partOf(saying, e);
                if (2 * sum >= steps) {
                    return e;
                }
            }
            return events - 1;
        }

        int sumOfSquares(int saying) {
            int sum = 0;
            for (int e = 0; e < events; e++) {
                sum += partOf(saying, e) * partOf(saying, e);
            }
            return sum;
        }

        int distance(int one, int other) {
            int sum = 0;
            for (int e = 0; e < events; e++) {
                sum += Math.abs(partOf(one, e) - partOf(other, e));
            }
            return sum / 2;
        }
    }

    /** THE ROW. */
    private static final class Row {
        private static final int MOST = 16;
        private final long[] numbers = new long[MOST];
        private int size;

        void clear() {
            size = 0;
        }

        void add(long number) {
            if (size < MOST) {
                numbers[size] = number;
                size++;
            }
        }

        void addFraction(long upper, long lower) {
            long by = commonDivisor(upper < 0 ? -upper : upper, lower);
            add(cut(upper, by));
            add(cut(lower, by));
        }

        boolean isBent() {
            for (int i = 2; i < size; i++) {
                if (numbers[i] - numbers[i - 1] < numbers[i - 1] - numbers[i - 2]) {
                    return false;
                }
            }
            return true;
        }

        private static long commonDivisor(long one, long other) {
            long a = one;
            long b = other;
            // a remainder is halved in two rounds at most, so a long is through long before the bound
            for (int i = 0; i < 200 && b != 0; i++) {
                long rest = a % b;
                a = b;
                b = rest;
            }
            return a;
        }
    }

    /** What keep() keeps: TURN, PEOPLE, THE BOOK, WORDS. */
    private static final class Held {
        private final int[] turns = new int[TURNS];
        private final int[] people = new int[MOST_PEOPLE];
        private int crowd;
        private final int[] whose = new int[MOST_EVENINGS];
        private final int[] said = new int[MOST_EVENINGS];
        private final int[] came = new int[MOST_EVENINGS];
        private int evenings;
        private final int[] wordFrom = new int[WORDS];
        private final int[] wordTo = new int[WORDS];
        private int wordBits;

        Held() {
            readSheet(0, 0, 0, 0);
        }

        int readSheet(int kind, int n, int f, int step) {
            int sum = 0;
            for (int i = 0; i < TURNS; i++) {
                turns[i] = i < n ? entry(kind, f + i * step) : i * i;
                sum += turns[i];
            }
            return sum;
        }

        private static int entry(int kind, int v) {
            int read = kind == 0 ? (byte) v : kind == 1 ? (short) v : v;
            return Math.max(-SIZE, Math.min(SIZE, read));
        }

        void dropAllButTurn() {
            dropPeople();
            wordBits = 0;
        }

        void dropPeople() {
            crowd = 0;
            evenings = 0;
        }

        boolean hasPerson(int who) {
            return who >= 0 && who < crowd;
        }

        void setWord(int i, int from, int to) {
            wordFrom[i] = from;
            wordTo[i] = to;
            wordBits |= 1 << i;
        }

        boolean isWord(int i) {
            return i >= 0 && i < WORDS && (wordBits >> i & 1) == 1;
        }

        boolean isWordFor(int i, int part) {
            return isWord(i) && part >= wordFrom[i] && part <= wordTo[i];
        }

        int wordsFor(int part) {
            int bits = 0;
            for (int i = 0; i < WORDS; i++) {
                if (isWordFor(i, part)) {
                    bits |= 1 << i;
                }
            }
            return bits;
        }

        boolean addEvening(int who, int saying, int event) {
            if (evenings >= MOST_EVENINGS) {
                return false;
            }
            whose[evenings] = who;
            said[evenings] = saying;
            came[evenings] = event;
            evenings++;
            return true;
        }

        void copy(Held other) {
            System.arraycopy(other.turns, 0, turns, 0, TURNS);
            System.arraycopy(other.people, 0, people, 0, MOST_PEOPLE);
            System.arraycopy(other.whose, 0, whose, 0, MOST_EVENINGS);
            System.arraycopy(other.said, 0, said, 0, MOST_EVENINGS);
            System.arraycopy(other.came, 0, came, 0, MOST_EVENINGS);
            System.arraycopy(other.wordFrom, 0, wordFrom, 0, WORDS);
            System.arraycopy(other.wordTo, 0, wordTo, 0, WORDS);
            crowd = other.crowd;
            evenings = other.evenings;
            wordBits = other.wordBits;
        }
    }

    /**
     * THE TEXT, and its reading into code: numbers as they are, things, and joins that stand behind
     * what they join (so that what is reckoned needs no recursion).
     */
    private static final class Text {
        private static final int MOST = 80;
        private static final int LONGEST = 60;
        private static final int DEEPEST = 5;
        private static final int MOST_DIGITS = 4;
        private static final int THING = 10000;
        private static final int JOIN = 20000;
        /** Not a sign of any text: a minus ahead of a thing. */
        private static final int NEGATE = 256;
        private static final String THINGS = "qsmxtuend";

        private final int[] signs = new int[MOST];
        private int length;
        private final int[] code = new int[LONGEST];
        private int codes;
        private final int[] waiting = new int[LONGEST];
        private int waits;
        private final boolean[] compared = new boolean[DEEPEST + 1];
        private int depth;
        private int digits;
        private boolean wantsThing;

        int addFour(int v) {
            if (length + 4 > MOST) {
                return NONE;
            }
            for (int i = 0; i < 4; i++) {
                signs[length] = v >>> (24 - 8 * i) & 255;
                length++;
            }
            return length;
        }

        boolean cutTo(int n) {
            if (n < 0 || n > length) {
                return false;
            }
            length = n;
            return true;
        }

        void empty() {
            length = 0;
        }

        /** Where the first sign is that can't stand there; NONE if there is none, and the code stands. */
        int firstWrong() {
            startReading();
            int end = Math.min(length, LONGEST);
            for (int p = 0; p < end; p++) {
                boolean stands = wantsThing ? takesThing(signs[p]) : takesJoin(signs[p]);
                if (!stands) {
                    return p;
                }
            }
            if (length > LONGEST || wantsThing || depth > 0) {
                return end;
            }
            release(1);
            return NONE;
        }

        private void startReading() {
            codes = 0;
            waits = 0;
            depth = 0;
            digits = 0;
            compared[0] = false;
            wantsThing = true;
        }

        private boolean takesThing(int sign) {
            if (sign == '-') {
                hold(NEGATE);
                return true;
            }
            if (sign == '(') {
                return opens();
            }
            boolean digit = isDigit(sign);
            int thing = THINGS.indexOf((char) sign);
            if (!digit && thing < 0) {
                return false;
            }
            write(digit ? sign - '0' : THING + thing);
            digits = digit ? 1 : 0;
            wantsThing = false;
            return true;
        }

        private boolean takesJoin(int sign) {
            if (isDigit(sign)) {
                return goesOn(sign);
            }
            digits = 0;
            if (sign == ')') {
                return closes();
            }
            int bond = bond(sign);
            if (bond == 0 || bond == 1 && compared[depth]) {
                return false;
            }
            compared[depth] |= bond == 1;
            release(bond);
            hold(sign);
            wantsThing = true;
            return true;
        }

        private boolean goesOn(int sign) {
            if (digits == 0 || digits >= MOST_DIGITS || codes == 0) {
                return false;
            }
            code[codes - 1] = code[codes - 1] * 10 + sign - '0';
            digits++;
            return true;
        }

        private boolean opens() {
            if (depth >= DEEPEST) {
                return false;
            }
            depth++;
            compared[depth] = false;
            hold('(');
            return true;
        }

        private boolean closes() {
            if (depth == 0) {
                return false;
            }
            release(1);
            waits--;
            depth--;
            return true;
        }

        /** What waits and binds no less is written; a ( binds 0, so nothing goes past it. */
        private void release(int bond) {
            for (; waits > 0 && bond(waiting[waits - 1]) >= bond; waits--) {
                write(JOIN + waiting[waits - 1]);
            }
        }

        private void hold(int sign) {
            if (waits < LONGEST) {
                waiting[waits] = sign;
                waits++;
            }
        }

        private void write(int c) {
            if (codes < LONGEST) {
                code[codes] = c;
                codes++;
            }
        }

        private static int bond(int sign) {
            switch (sign) {
                case '<':
                case '>':
                case '=':
                    return 1;
                case '+':
                case '-':
                    return 2;
                case '*':
                case '/':
                    return 3;
                case NEGATE:
                    return 4;
                default:
                    return 0;
            }
        }

        private static boolean isDigit(int sign) {
            return sign >= '0' && sign <= '9';
        }
    }

    /** The four PAYS, each with what it is for every SAYING and EVENT. */
    private static final class Pays {
        private static final int NOT_THERE = 0;
        private static final int TOLD = 1;
        private static final int MADE = 2;

        private final Sayings sayings;
        private final Held held;
        private final int[] kinds = new int[PAYS];
        private final int[][] codes = new int[PAYS][Text.LONGEST];
        private final int[] lengths = new int[PAYS];
        private final int[][] values = new int[PAYS][MOST_SAYINGS * MOST_EVENTS];
        private final boolean[] fresh = new boolean[PAYS];
        private final int[] things = new int[9];
        private final int[] stack = new int[Text.LONGEST];

        Pays(Sayings all, Held now) {
            sayings = all;
            held = now;
        }

        /** What a PAY is now, at SAYING times 4 and EVENT; null if it is none. */
        int[] valuesOf(int pay) {
            if (pay < 0 || pay >= PAYS || kinds[pay] == NOT_THERE) {
                return null;
            }
            if (!fresh[pay]) {
                reckonAll(codes[pay], lengths[pay], values[pay]);
                fresh[pay] = true;
            }
            return values[pay];
        }

        int bits() {
            int bits = 0;
            for (int pay = 0; pay < PAYS; pay++) {
                bits |= kinds[pay] == NOT_THERE ? 0 : 1 << pay;
            }
            return bits;
        }

        void drop(int pay) {
            kinds[pay] = NOT_THERE;
        }

        void tell(int pay, Text text) {
            System.arraycopy(text.code, 0, codes[pay], 0, text.codes);
            lengths[pay] = text.codes;
            kinds[pay] = TOLD;
            fresh[pay] = false;
        }

        void turnChanged() {
            for (int pay = 0; pay < PAYS; pay++) {
                fresh[pay] = kinds[pay] == MADE;
            }
        }

        void dropMade() {
            for (int pay = 0; pay < PAYS; pay++) {
                if (kinds[pay] == MADE) {
                    drop(pay);
                }
            }
            turnChanged();
        }

        private void setMade(int pay) {
            kinds[pay] = MADE;
            fresh[pay] = true;
        }

        boolean makeOfTurn(int pay) {
            for (int saying = 0; saying < sayings.size; saying++) {
                int s = sayings.partOf(saying, 1);
                int at = saying * MOST_EVENTS;
                values[pay][at] = held.turns[s] - s * slope(s);
                values[pay][at + 1] = held.turns[s] + (sayings.steps - s) * slope(s);
            }
            setMade(pay);
            for (int s = 1; s < sayings.steps; s++) {
                if (slope(s) < slope(s - 1)) {
                    return false;
                }
            }
            return true;
        }

        private int slope(int s) {
            int from = Math.min(s, sayings.steps - 1);
            return held.turns[from + 1] - held.turns[from];
        }

        void makeOfTwo(int pay, int[] first, int[] second, int a, int b) {
            int[] made = values[pay];
            for (int at = 0; at < sayings.size * MOST_EVENTS; at++) {
                made[at] = a * first[at] + b * second[at];
            }
            setMade(pay);
        }

        int makeLifted(int pay, int[] from) {
            int least = from[leastAt(from)];
            int[] made = values[pay];
            for (int at = 0; at < sayings.size * MOST_EVENTS; at++) {
                made[at] = from[at] - least;
            }
            setMade(pay);
            return -least;
        }

        /** Where the first SAYING's first EVENT with the least stands. */
        int leastAt(int[] of) {
            int least = 0;
            for (int saying = 0; saying < sayings.size; saying++) {
                for (int e = 0; e < sayings.events; e++) {
                    int at = saying * MOST_EVENTS + e;
                    if (of[at] < of[least]) {
                        least = at;
                    }
                }
            }
            return least;
        }

        int greatestOf(int[] of) {
            int greatest = of[0];
            for (int saying = 0; saying < sayings.size; saying++) {
                for (int e = 0; e < sayings.events; e++) {
                    greatest = Math.max(greatest, of[saying * MOST_EVENTS + e]);
                }
            }
            return greatest;
        }

        private void reckonAll(int[] code, int length, int[] into) {
            things[7] = sayings.events;
            things[8] = sayings.steps;
            for (int saying = 0; saying < sayings.size; saying++) {
                int greatest = sayings.partOf(saying, sayings.mode(saying));
                things[1] = sayings.sumOfSquares(saying);
                things[2] = greatest;
                things[5] = sumOfTurns(saying);
                for (int e = 0; e < sayings.events; e++) {
                    int q = sayings.partOf(saying, e);
                    things[0] = q;
                    things[3] = q == greatest ? 1 : 0;
                    things[4] = held.turns[q];
                    things[6] = e;
                    into[saying * MOST_EVENTS + e] = reckon(code, length);
                }
            }
        }

        private int sumOfTurns(int saying) {
            int sum = 0;
            for (int e = 0; e < sayings.events; e++) {
                sum += held.turns[sayings.partOf(saying, e)];
            }
            return sum;
        }

        private int reckon(int[] code, int length) {
            int top = 0;
            for (int i = 0; i < length; i++) {
                int c = code[i];
                if (c < Text.THING) {
                    stack[top] = c;
                    top++;
                } else if (c < Text.JOIN) {
                    stack[top] = things[c - Text.THING];
                    top++;
                } else if (c == Text.JOIN + Text.NEGATE) {
                    stack[top - 1] = -stack[top - 1];
                } else {
                    top--;
                    stack[top - 1] = join(c - Text.JOIN, stack[top - 1], stack[top]);
                }
            }
            return stack[0];
        }

        private static int join(int sign, int a, int b) {
            switch (sign) {
                case '<':
                    return a < b ? 1 : 0;
                case '>':
                    return a > b ? 1 : 0;
                case '=':
                    return a == b ? 1 : 0;
                case '+':
                    return a + b;
                case '-':
                    return a - b;
                case '*':
                    return a * b;
                default:
                    return b == 0 ? 0 : a / b;
            }
        }
    }

    /** A number for each SAYING. */
    private static final class Tally {
        private final Sayings sayings;
        private final long[] numbers = new long[MOST_SAYINGS];

        Tally(Sayings all) {
            sayings = all;
        }

        /** The first with the greatest number. */
        int top() {
            return topBut(NONE);
        }

        /** The first other one with the greatest number of all others. */
        int topBut(int saying) {
            int top = saying == 0 ? 1 : 0;
            for (int s = top + 1; s < sayings.size; s++) {
                if (s != saying && numbers[s] > numbers[top]) {
                    top = s;
                }
            }
            return top;
        }

        long greatest() {
            return numbers[top()];
        }

        int howMany(long number) {
            int many = 0;
            for (int s = 0; s < sayings.size; s++) {
                many += numbers[s] == number ? 1 : 0;
            }
            return many;
        }

        int numberAhead(int saying) {
            int ahead = 0;
            for (int s = 0; s < sayings.size; s++) {
                boolean before = numbers[s] > numbers[saying] || numbers[s] == numbers[saying] && s < saying;
                ahead += before ? 1 : 0;
            }
            return ahead;
        }
    }

    /** WORTH, and what is BEST. */
    private static final class Judge {
        private static final int MOST_SHOWN = 10;
        private static final int MOST_FACTOR = 20;

        private final Sayings sayings;
        private final Tally tally;

        Judge(Sayings all, Tally numbers) {
            sayings = all;
            tally = numbers;
        }

        /** The sum over EVENTS of the weight, told from a place on, times what the PAY is. */
        long weighed(int[] values, int saying, int[] weights, int from) {
            long sum = 0;
            int at = saying * MOST_EVENTS;
            for (int e = 0; e < sayings.events; e++) {
                sum += (long) weights[from + e] * values[at + e];
            }
            return sum;
        }

        long worth(int[] values, int saying, int thought) {
            return weighed(values, saying, sayings.parts, thought * MOST_EVENTS);
        }

        void tallyWeighed(int[] values, int[] weights, int from) {
            for (int s = 0; s < sayings.size; s++) {
                tally.numbers[s] = weighed(values, s, weights, from);
            }
        }

        void tallyWorth(int[] values, int thought) {
            tallyWeighed(values, sayings.parts, thought * MOST_EVENTS);
        }

        long greatestWorth(int[] values, int thought) {
            tallyWorth(values, thought);
            return tally.greatest();
        }

        int tellBest(int[] values, int thought, Row row) {
            long greatest = greatestWorth(values, thought);
            row.clear();
            for (int s = 0; s < sayings.size && row.size < MOST_SHOWN; s++) {
                if (tally.numbers[s] == greatest) {
                    row.add(s);
                }
            }
            return tally.howMany(greatest);
        }

        int tellTruth(int[] values, Row row) {
            int loose = NONE;
            int looseOther = NONE;
            for (int thought = 0; thought < sayings.size; thought++) {
                tallyWorth(values, thought);
                int other = tally.topBut(thought);
                long more = tally.numbers[other] - tally.numbers[thought];
                if (more > 0) {
                    tellTwo(thought, other, row);
                    return 0;
                }
                if (more == 0 && loose == NONE) {
                    loose = thought;
                    looseOther = other;
                }
            }
            tellTwo(loose, looseOther, row);
            return loose == NONE ? 2 : 1;
        }

        int tellBends(int[] values, Row row) {
            int bent = 0;
            int worst = NONE;
            long most = 0;
            for (int thought = 0; thought < sayings.size; thought++) {
                tallyWorth(values, thought);
                long lost = tally.greatest() - tally.numbers[thought];
                if (lost > 0) {
                    bent++;
                }
                if (lost > most) {
                    worst = thought;
                    most = lost;
                }
            }
            row.clear();
            row.add(worst);
            row.add(most);
            return bent;
        }

        int tellThoughtsFor(int[] values, int saying, Row row) {
            int many = 0;
            int first = NONE;
            int last = NONE;
            for (int thought = 0; thought < sayings.size; thought++) {
                tallyWorth(values, thought);
                if (tally.numbers[saying] == tally.greatest()) {
                    first = first == NONE ? thought : first;
                    last = thought;
                    many++;
                }
            }
            tellTwo(first, last, row);
            return many;
        }

        /** Both, or an empty ROW if the first one is NONE. */
        void tellTwo(int one, int other, Row row) {
            row.clear();
            if (one != NONE) {
                row.add(one);
                row.add(other);
            }
        }

        /** Whether a times the one is the other but for a number for each EVENT. */
        boolean differsByEventAlone(int[] one, int a, int[] other) {
            for (int e = 0; e < sayings.events; e++) {
                long apart = (long) a * one[e] - other[e];
                for (int s = 1; s < sayings.size; s++) {
                    int at = s * MOST_EVENTS + e;
                    if ((long) a * one[at] - other[at] != apart) {
                        return false;
                    }
                }
            }
            return true;
        }

        int tellFactor(int[] one, int[] other, Row row) {
            row.clear();
            for (int a = 1; a <= MOST_FACTOR; a++) {
                if (differsByEventAlone(one, a, other)) {
                    row.add(a);
                    return 1;
                }
            }
            return 0;
        }

        /** With two EVENTS the THOUGHT with PART k of EVENT 1 is number STEPS less k. */
        long turnOf(int[] values, int k) {
            return cut(greatestWorth(values, sayings.steps - k), sayings.steps);
        }

        boolean fitsTurn(int[] values) {
            for (int k = 0; k <= sayings.steps; k++) {
                long turn = turnOf(values, k);
                if (turn < -SIZE || turn > SIZE) {
                    return false;
                }
            }
            return true;
        }

        int tellRanked(int[] values, int thought, int k, Row row) {
            tallyWorth(values, thought);
            int ranked = 0;
            for (int s = 0; s < sayings.size; s++) {
                if (tally.numberAhead(s) == k) {
                    ranked = s;
                }
            }
            row.clear();
            row.add(tally.numbers[ranked]);
            return ranked;
        }
    }

    /** What draws from the truth or is worth a way: looking, minding loss, bribes. */
    private static final class Lures {
        private static final int CASES = 10;

        private final Sayings sayings;
        private final Tally tally;
        private final Judge judge;
        private final int[] weights = new int[MOST_EVENTS];
        private int offerEvent;
        private int offerLeast;
        private int offerGift;

        Lures(Sayings all, Tally numbers, Judge weighing) {
            sayings = all;
            tally = numbers;
            judge = weighing;
        }

        boolean areLights(int lights) {
            int end = 1;
            for (int e = 0; e < sayings.events; e++) {
                end *= 10;
            }
            return lights >= 0 && lights < end;
        }

        long gainOfLooking(int[] values, int thought, int lights) {
            return worthWithLight(values, thought, lights, true)
                + worthWithLight(values, thought, lights, false)
                - CASES * judge.greatestWorth(values, thought);
        }

        private long worthWithLight(int[] values, int thought, int lights, boolean shown) {
            int left = lights;
            for (int e = sayings.events - 1; e >= 0; e--) {
                int digit = left % 10;
                left /= 10;
                weights[e] = sayings.partOf(thought, e) * (shown ? digit : CASES - digit);
            }
            judge.tallyWeighed(values, weights, 0);
            return tally.greatest();
        }

        int timesForCost(long more, int cost) {
            long due = (long) cost * sayings.steps * CASES;
            if (due == 0) {
                return 1;
            }
            long times = more <= 0 ? MOST_TIMES + 1 : cut(due + more - 1, more);
            return times > MOST_TIMES ? NONE : (int) times;
        }

        int tellMinding(int[] values, int thought, int w, Row row) {
            for (int s = 0; s < sayings.size; s++) {
                tally.numbers[s] = minded(values, s, thought, w);
            }
            int best = tally.top();
            row.clear();
            row.add(tally.howMany(tally.numbers[best]));
            row.add(tally.numbers[thought] == tally.numbers[best] ? 1 : 0);
            row.addFraction(judge.worth(values, best, thought), sayings.steps);
            return best;
        }

        private long minded(int[] values, int saying, int thought, int w) {
            long sum = 0;
            for (int e = 0; e < sayings.events; e++) {
                long paid = values[saying * MOST_EVENTS + e];
                sum += sayings.partOf(thought, e) * (paid < 0 ? paid * w : paid);
            }
            return sum;
        }

        void offer(int event, int least, int gift) {
            offerEvent = event;
            offerLeast = least;
            offerGift = gift;
        }

        /** The WORTH of the bribe, which comes in whichever EVENT. */
        private long bribeFor(int saying) {
            boolean given = sayings.partOf(saying, offerEvent) >= offerLeast;
            return given ? (long) offerGift * sayings.steps : 0;
        }

        int bestBribed(int[] values, int thought) {
            for (int s = 0; s < sayings.size; s++) {
                tally.numbers[s] = judge.worth(values, s, thought) + bribeFor(s);
            }
            return tally.top();
        }

        /** Each other SAYING bounds the times from below, or from above where it is WORTH more. */
        int timesAgainstBribe(int[] values, int thought) {
            long own = judge.worth(values, thought, thought);
            long fewest = 1;
            long most = MOST_TIMES;
            for (int s = 0; s < sayings.size; s++) {
                long ahead = own - judge.worth(values, s, thought);
                long tempts = bribeFor(s) - bribeFor(thought);
                if (ahead == 0 && tempts > 0) {
                    return NONE;
                }
                if (ahead > 0 && tempts > 0) {
                    fewest = Math.max(fewest, cut(tempts + ahead - 1, ahead));
                }
                if (ahead < 0) {
                    most = Math.min(most, tempts > 0 ? 0 : cut(tempts, ahead));
                }
            }
            return fewest > most ? NONE : (int) fewest;
        }

        /** Two unlike SAYINGS: each has a greater PART somewhere, so some bribe is for it alone. */
        int greatestSafeGift(int[] values) {
            long safe = MOST_GIFT;
            for (int thought = 0; thought < sayings.size; thought++) {
                judge.tallyWorth(values, thought);
                long ahead = tally.numbers[thought] - tally.numbers[tally.topBut(thought)];
                if (ahead < 0) {
                    return NOT_SO;
                }
                safe = Math.min(safe, cut(ahead, sayings.steps));
            }
            return (int) safe;
        }
    }

    /** PEOPLE against one another, two who agree, and two who are paid by one another. */
    private static final class Contest {
        private static final int PRIZE = 60;
        private static final int MOST_ROUNDS = 20;

        private final Sayings sayings;
        private final Held held;
        private final int[] said = new int[MOST_PEOPLE];
        private final int[] tops = new int[MOST_EVENTS];

        Contest(Sayings all, Held now) {
            sayings = all;
            held = now;
        }

        private void allSayTheTruth() {
            System.arraycopy(held.people, 0, said, 0, MOST_PEOPLE);
        }

        int prizeFor(int[] values, int who, int saying) {
            allSayTheTruth();
            return prizeIf(values, who, saying);
        }

        /** The prize of one who says a SAYING, others saying what they say. */
        private int prizeIf(int[] values, int who, int saying) {
            int sum = 0;
            for (int e = 0; e < sayings.events; e++) {
                sum += sayings.partOf(held.people[who], e) * share(values, who, saying, e);
            }
            return sum;
        }

        private int share(int[] values, int who, int saying, int event) {
            int own = values[saying * MOST_EVENTS + event];
            int winners = 1;
            for (int i = 0; i < held.crowd; i++) {
                int theirs = values[said[i] * MOST_EVENTS + event];
                if (i != who && theirs > own) {
                    return 0;
                }
                if (i != who && theirs == own) {
                    winners++;
                }
            }
            return PRIZE / winners;
        }

        /** What has the most prize; of equal ones what is said already, else the first. */
        private int answer(int[] values, int who) {
            int answer = said[who];
            int most = prizeIf(values, who, answer);
            for (int s = 0; s < sayings.size; s++) {
                int prize = prizeIf(values, who, s);
                if (prize > most) {
                    answer = s;
                    most = prize;
                }
            }
            return answer;
        }

        int tellBoast(int[] values, int who, Row row) {
            allSayTheTruth();
            int truth = said[who];
            int boast = answer(values, who);
            row.clear();
            row.add(prizeIf(values, who, boast));
            row.add(prizeIf(values, who, truth));
            row.add(sayings.distance(boast, truth));
            return boast;
        }

        int tellRest(int[] values, Row row) {
            allSayTheTruth();
            for (int changed = 0; changed < MOST_ROUNDS; changed++) {
                if (!roundChanges(values)) {
                    row.clear();
                    for (int i = 0; i < held.crowd; i++) {
                        row.add(said[i]);
                    }
                    return changed;
                }
            }
            return NOT_SO;
        }

        private boolean roundChanges(int[] values) {
            boolean changes = false;
            for (int i = 0; i < held.crowd; i++) {
                int answer = answer(values, i);
                changes |= answer != said[i];
                said[i] = answer;
            }
            return changes;
        }

        int tellAgreed(int[] values, int one, int other, Row row) {
            int agreed = 0;
            long greatest = leastMore(values, 0, one, other);
            for (int s = 1; s < sayings.size; s++) {
                long more = leastMore(values, s, one, other);
                if (more > greatest) {
                    agreed = s;
                    greatest = more;
                }
            }
            row.clear();
            row.add(greatest);
            return agreed;
        }

        /** What both have more at least, if they say one SAYING, than by two others. */
        private long leastMore(int[] values, int saying, int one, int other) {
            long least = moreIf(values, saying, one, other, 0);
            for (int e = 1; e < sayings.events; e++) {
                least = Math.min(least, moreIf(values, saying, one, other, e));
            }
            return least;
        }

        private static long moreIf(int[] values, int saying, int one, int other, int event) {
            return 2L * values[saying * MOST_EVENTS + event]
                - values[one * MOST_EVENTS + event] - values[other * MOST_EVENTS + event];
        }

        int tellGainingPairs(int[] values, Row row) {
            int pairs = 0;
            row.clear();
            for (int one = 0; one < sayings.size; one++) {
                for (int other = one + 1; other < sayings.size; other++) {
                    if (canGain(values, one, other)) {
                        if (pairs == 0) {
                            row.add(one);
                            row.add(other);
                        }
                        pairs++;
                    }
                }
            }
            return pairs;
        }

        private boolean canGain(int[] values, int one, int other) {
            for (int s = 0; s < sayings.size; s++) {
                if (leastMore(values, s, one, other) > 0) {
                    return true;
                }
            }
            return false;
        }

        int tellPeers(int[] values, int one, int other, Row row) {
            findTops(values);
            int pairs = 0;
            int same = 0;
            int firstOne = NONE;
            int firstOther = NONE;
            for (int a = 0; a < sayings.size; a++) {
                for (int b = 0; b < sayings.size; b++) {
                    if (rests(values, a, b)) {
                        firstOne = pairs == 0 ? a : firstOne;
                        firstOther = pairs == 0 ? b : firstOther;
                        pairs++;
                        same += a == b ? 1 : 0;
                    }
                }
            }
            row.clear();
            row.add(firstOne);
            row.add(firstOther);
            row.add(same);
            row.add(rests(values, one, other) ? 1 : 0);
            return pairs;
        }

        private void findTops(int[] values) {
            for (int e = 0; e < sayings.events; e++) {
                tops[e] = values[e];
                for (int s = 1; s < sayings.size; s++) {
                    tops[e] = Math.max(tops[e], values[s * MOST_EVENTS + e]);
                }
            }
        }

        /** A change of one's own SAYING does not change by which EVENT one is paid. */
        private boolean rests(int[] values, int a, int b) {
            int paidOne = sayings.mode(b);
            int paidOther = sayings.mode(a);
            return values[a * MOST_EVENTS + paidOne] == tops[paidOne]
                && values[b * MOST_EVENTS + paidOther] == tops[paidOther];
        }
    }

    /** One who decides by what is said, and numbers of a scale. */
    private static final class Chooser {
        private static final long NO_WORTH = -1000000000L;
        private static final int COIN_CASES = 20;

        private final Sayings sayings;
        private final Tally tally;
        private final Judge judge;
        private long mostFirstWay;
        private long mostAsideFirst;
        private long mostOtherWay;

        Chooser(Sayings all, Tally numbers, Judge weighing) {
            sayings = all;
            tally = numbers;
            judge = weighing;
        }

        private boolean decidesFirst(int saying, int least) {
            return sayings.partOf(saying, 0) >= least;
        }

        int tellDecided(int[] values, int least, int then, int otherwise, Row row) {
            long greatestTrue = NO_WORTH;
            boolean anyTrue = false;
            for (int s = 0; s < sayings.size; s++) {
                int comes = decidesFirst(s, least) ? then : otherwise;
                long worth = judge.worth(values, s, comes);
                tally.numbers[s] = worth;
                if (s == comes && (!anyTrue || worth > greatestTrue)) {
                    greatestTrue = worth;
                    anyTrue = true;
                }
            }
            int best = tally.top();
            int comes = decidesFirst(best, least) ? then : otherwise;
            row.clear();
            row.add(best == comes ? 1 : 0);
            row.add(tally.numbers[best]);
            row.add(greatestTrue);
            return best;
        }

        int tellCoin(int[] values, int least, int then, int otherwise, Row row) {
            findWays(values, least, then, otherwise);
            long first = judge.worth(values, then, then);
            long other = judge.worth(values, otherwise, otherwise);
            boolean byFirst = decidesFirst(then, least);
            for (int k = 0; k <= COIN_CASES; k++) {
                long truth = byFirst ? ofTwo(first, other, k) : ofTwo(other, first, k);
                if (mostOfAny(least, k) <= truth) {
                    row.clear();
                    row.add(truth);
                    row.add(mostOfAny(least, 0));
                    return k;
                }
            }
            return NOT_SO;
        }

        /** The most WORTH that a's SAYINGS of each way can have, and b's, which decides nothing. */
        private void findWays(int[] values, int least, int then, int otherwise) {
            boolean anyFirst = false;
            boolean anyAside = false;
            for (int s = 0; s < sayings.size; s++) {
                long worth = judge.worth(values, s, then);
                if (decidesFirst(s, least)) {
                    mostFirstWay = anyFirst ? Math.max(mostFirstWay, worth) : worth;
                    anyFirst = true;
                } else {
                    mostAsideFirst = anyAside ? Math.max(mostAsideFirst, worth) : worth;
                    anyAside = true;
                }
            }
            mostOtherWay = judge.greatestWorth(values, otherwise);
        }

        /** Weights are never below 0, so that the most of both parts is the most of all. */
        private long mostOfAny(int least, int k) {
            long first = ofTwo(mostFirstWay, mostOtherWay, k);
            long aside = ofTwo(mostOtherWay, mostAsideFirst, k);
            if (least > sayings.steps) {
                return aside;
            }
            return least == 0 ? first : Math.max(first, aside);
        }

        private static long ofTwo(long decided, long left, int k) {
            return (2 * COIN_CASES - k) * decided + k * left;
        }

        int bestNumber(int[] values, int thought) {
            int best = 0;
            long greatest = judge.worth(values, sayings.allTo(0), thought);
            for (int r = 1; r < sayings.events; r++) {
                long worth = judge.worth(values, sayings.allTo(r), thought);
                if (worth > greatest) {
                    best = r;
                    greatest = worth;
                }
            }
            return best;
        }

        int tellMiddle(int thought, int a, int b, Row row) {
            int middle = 0;
            int least = lostBy(0, thought, a, b);
            int many = 1;
            for (int r = 1; r < sayings.events; r++) {
                int lost = lostBy(r, thought, a, b);
                if (lost < least) {
                    middle = r;
                    least = lost;
                    many = 1;
                } else if (lost == least) {
                    many++;
                }
            }
            row.clear();
            row.add(least);
            row.add(many);
            return middle;
        }

        private int lostBy(int r, int thought, int a, int b) {
            int sum = 0;
            for (int e = 0; e < sayings.events; e++) {
                sum += sayings.partOf(thought, e) * (r < e ? (e - r) * a : (r - e) * b);
            }
            return sum;
        }
    }

    /** What THE BOOK tells. */
    private static final class Ledger {
        private final Sayings sayings;
        private final Held held;
        private final Tally tally;
        private final Judge judge;
        private final int[] cameOften = new int[MOST_EVENTS];

        Ledger(Sayings all, Held now, Tally numbers, Judge weighing) {
            sayings = all;
            held = now;
            tally = numbers;
            judge = weighing;
        }

        private int eveningsOf(int who) {
            int many = 0;
            for (int i = 0; i < held.evenings; i++) {
                many += held.whose[i] == who ? 1 : 0;
            }
            return many;
        }

        private long gotBy(int[] values, int who) {
            long sum = 0;
            for (int i = 0; i < held.evenings; i++) {
                if (held.whose[i] == who) {
                    sum += values[held.said[i] * MOST_EVENTS + held.came[i]];
                }
            }
            return sum;
        }

        int tellPaid(int[] values, int who, Row row) {
            Arrays.fill(cameOften, 0);
            for (int i = 0; i < held.evenings; i++) {
                cameOften[held.came[i]] += held.whose[i] == who ? 1 : 0;
            }
            judge.tallyWeighed(values, cameOften, 0);
            int best = tally.top();
            row.clear();
            row.add(gotBy(values, who));
            row.add(tally.numbers[best]);
            row.add(best);
            return eveningsOf(who);
        }

        int tellFirst(int[] values, Row row) {
            int first = NOT_SO;
            long most = 0;
            long by = 1;
            for (int who = 0; who < held.crowd; who++) {
                long many = eveningsOf(who);
                long got = gotBy(values, who);
                if (many > 0 && (first == NOT_SO || got * by > most * many)) {
                    first = who;
                    most = got;
                    by = many;
                }
            }
            if (first != NOT_SO) {
                row.clear();
                row.addFraction(most, by);
            }
            return first;
        }

        /** Of one's EVENINGS with PART k of an EVENT said: how many, or how many in which it came. */
        private int saidSo(int who, int event, int k, boolean andCame) {
            int many = 0;
            for (int i = 0; i < held.evenings; i++) {
                boolean so = held.whose[i] == who && sayings.partOf(held.said[i], event) == k;
                many += so && (!andCame || held.came[i] == event) ? 1 : 0;
            }
            return many;
        }

        int tellRight(int who, int event, int k, Row row) {
            int off = 0;
            for (int part = 0; part <= sayings.steps; part++) {
                int due = saidSo(who, event, part, false) * part;
                off += Math.abs(due - sayings.steps * saidSo(who, event, part, true));
            }
            row.clear();
            row.add(saidSo(who, event, k, true));
            row.add(off);
            return saidSo(who, event, k, false);
        }

        int tellMeant(int word, Row row) {
            int many = 0;
            int came = 0;
            for (int i = 0; i < held.evenings; i++) {
                if (held.isWordFor(word, sayings.partOf(held.said[i], 0))) {
                    many++;
                    came += held.came[i] == 0 ? 1 : 0;
                }
            }
            int often = came * sayings.steps;
            boolean lies = many > 0 && often >= held.wordFrom[word] * many && often <= held.wordTo[word] * many;
            row.clear();
            row.add(came);
            row.add(lies ? 1 : 0);
            return many;
        }

        int tellThoughts(int[] values, int who, Row row) {
            int many = 0;
            int first = NONE;
            int last = NONE;
            for (int thought = 0; thought < sayings.size; thought++) {
                judge.tallyWorth(values, thought);
                if (alwaysSaidTop(who)) {
                    first = first == NONE ? thought : first;
                    last = thought;
                    many++;
                }
            }
            judge.tellTwo(first, last, row);
            return many;
        }

        private boolean alwaysSaidTop(int who) {
            long greatest = tally.greatest();
            for (int i = 0; i < held.evenings; i++) {
                if (held.whose[i] == who && tally.numbers[held.said[i]] != greatest) {
                    return false;
                }
            }
            return true;
        }
    }
}
