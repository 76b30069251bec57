import java.util.Arrays;

/** Two clocks that are wrong by so much, the people who go by them, and the days that come of it. */
public final class FastClock {
    /** Refusals: there is no such thing; a number is not as told; not as things are; no room. */
    public static final int NONE = -1, BAD = -2, STATE = -3, FULL = -4;
    /** There is no such number. */
    public static final long NO = Long.MIN_VALUE;

    // Where an answer may itself be below 0, the refusals stand far from all answers.
    private static final int FAR_NONE = -10001, FAR_BAD = -10002, FAR_STATE = -10003;
    private static final int NOTHING_FOUND = -5, OTHER_KIND = -6, NO_NUMBER_FITS = -99;

    private static final int CLOCKS = 2, MOST_FAST = 60, MOST_LATE = 200, MOST_SETS = 9, LAST_DAY = 9999;
    private static final int KINDS = 7, MOST_PEOPLE = 6, MOST_V = 9, ROW_SIZE = 4;
    private static final int MOST_SIGN = 127, MOST_TAPE = 100, MOST_HOUSES = 5;
    private static final int MOST_SEEN = 6, MOST_RULES = 4, MOST_BOOKED = 8, MOST_TRACED = 20;
    private static final int MOST_ON = 30, MOST_BEST = 20, MOST_RULE_DAYS = 9;
    private static final int LEAST_BEST = -30, ROW_CHOICES = 5, ROW_STEP = 5;
    private static final int MOST_CALL = 60, MOST_PAD = 99, MOST_KNOWN = 20;

    private final State now;
    private final Notes notes = new Notes();
    // What is asked goes on in these two, never in the state that holds.
    private final State trial;
    private final State rival;
    private final State savedState;
    private final Notes savedNotes = new Notes();
    private boolean imageTaken = false;
    private final Trace trace = new Trace();

    public FastClock() {
        House noHouse = new House();
        Person nobody = new Person(0, 0);
        now = new State(noHouse, nobody);
        trial = new State(noHouse, nobody);
        rival = new State(noHouse, nobody);
        savedState = new State(noHouse, nobody);
    }

    // ---- houses, people, clocks

    public int feed(int sign) {
        if (sign < 0 || sign > MOST_SIGN) return BAD;
        if (notes.tapeSize >= MOST_TAPE) return FULL;
        notes.tape[notes.tapeSize] = sign;
        notes.tapeSize++;
        return notes.tapeSize;
    }

    public int house() {
        if (notes.houses >= MOST_HOUSES) return FULL;
        House read = new House();
        int fault = read.readFrom(notes.tape, notes.tapeSize);
        notes.tapeSize = 0;
        if (fault >= 0) return -10 - fault;
        now.house = read;
        notes.houses++;
        return notes.houses - 1;
    }

    public int person(int kind, int v) {
        if (kind < 0 || kind >= KINDS) return NONE;
        if (v < 0 || v > MOST_V) return BAD;
        if (now.size >= MOST_PEOPLE) return FULL;
        int number = now.size;
        now.people[number] = newPerson(kind, number, v);
        now.clock[number] = 0;
        now.belief[number] = 0;
        for (int k = 0; k < ROW_SIZE; k++) now.rows[number * ROW_SIZE + k] = 0;
        now.size++;
        return number;
    }

    public int of(int person, int what) {
        if (!isPerson(person)) return FAR_NONE;
        switch (what) {
            case 0: return now.people[person].kind();
            case 1: return now.people[person].v;
            case 2: return now.clock[person];
            case 3: return now.belief[person];
            case 4: return now.people[person].margin(now);
            case 5: return now.people[person].taken(now);
            case 6: return now.late(person);
            case 7: return now.house.costOf(now.late(person));
            default: return FAR_NONE;
        }
    }

    public int use(int person, int clock) {
        if (!isPerson(person) || !isClock(clock)) return NONE;
        int before = now.clock[person];
        now.clock[person] = clock;
        return before;
    }

    public int believe(int person, int n) {
        if (!isPerson(person)) return FAR_NONE;
        if (!isFast(n)) return FAR_BAD;
        int before = now.belief[person];
        now.belief[person] = n;
        return before;
    }

    public int row(int person, int k, int n) {
        if (!isPerson(person) || k < 0 || k >= ROW_SIZE) return NONE;
        if (n < 0 || n > MOST_V) return BAD;
        if (!(now.people[person] instanceof Told)) return STATE;
        int at = person * ROW_SIZE + k;
        int before = now.rows[at];
        now.rows[at] = n;
        return before;
    }

    public int set(int clock, int f) {
        if (!isClock(clock)) return FAR_NONE;
        if (!isFast(f)) return FAR_BAD;
        now.setClock(clock, f);
        return now.change;
    }

    public int hear(int person) {
        if (!isPerson(person)) return FAR_NONE;
        now.hearWireless(person);
        return now.belief[person];
    }

    public int tell(int one, int other) {
        if (!isPerson(one) || !isPerson(other)) return FAR_NONE;
        if (one == other) return FAR_BAD;
        if (now.clock[one] != now.clock[other]) return FAR_STATE;
        now.belief[other] = now.belief[one];
        return now.belief[other];
    }

    public int told(int what) {
        switch (what) {
            case 0: return now.day;
            case 1: return now.sets;
            case 2: return now.change;
            case 3: return now.house.lateCost;
            case 4: return now.house.earlyCost;
            case 10: return now.fast[0];
            case 11: return now.fast[1];
            default: return FAR_NONE;
        }
    }

    public int day() {
        if (now.day >= LAST_DAY) return STATE;
        return now.passDay(0);
    }

    // ---- days to come

    public int on(int n, int what) {
        boolean late = what >= 10 && isPerson(what - 10);
        boolean belief = what >= 20 && isPerson(what - 20);
        if (what != 0 && !late && !belief) return FAR_NONE;
        if (n < 0 || n > MOST_ON) return FAR_BAD;
        trial.copyFrom(now);
        int cost = trial.passDays(n, 0);
        if (late) return trial.late(what - 10);
        if (belief) return trial.belief[what - 20];
        return cost;
    }

    public int inTime() {
        trial.copyFrom(now);
        for (int n = 0; n <= MOST_ON; n++) {
            if (trial.nobodyLaterThan(0)) return n;
            trial.passDay(0);
        }
        return NOTHING_FOUND;
    }

    public int worst() {
        int worst = NOTHING_FOUND;
        int most = 0;
        for (int p = 0; p < now.size; p++) {
            int late = now.late(p);
            if (worst < 0 || late > most) {
                worst = p;
                most = late;
            }
        }
        return worst;
    }

    public int order(int k) {
        for (int p = 0; p < now.size; p++) {
            if (howManyComeAheadOf(p) == k) return p;
        }
        return NONE;
    }

    // ---- settings

    public int best(int clock, int n, int what) {
        if (!isClock(clock) || !isPart(what)) return FAR_NONE;
        if (n < 1 || n > MOST_BEST) return FAR_BAD;
        int best = LEAST_BEST;
        int least = Integer.MAX_VALUE;
        for (int f = LEAST_BEST; f <= MOST_FAST; f++) {
            trial.copyFrom(now);
            trial.setClock(clock, f);
            int cost = trial.passDays(n, 0);
            if (cost < least) {
                least = cost;
                best = f;
            }
        }
        return what == 0 ? best : least;
    }

    public int rowOf(int clock, int n, int k) {
        if (!isClock(clock) || k < -1 || k > 3) return NONE;
        if (n < 1 || n > 4) return BAD;
        int best = 0;
        int least = Integer.MAX_VALUE;
        // A row is a number of n digits, the first setting ahead, so that counting goes by rows.
        int choices = choicesOf(n);
        for (int code = 0; code < choices; code++) {
            int cost = costOfRow(clock, n, code);
            if (cost < least) {
                least = cost;
                best = code;
            }
        }
        if (k == -1) return least;
        if (k >= n) return NOTHING_FOUND;
        return settingOf(best, n, k);
    }

    public int lasts(int clock, int f) {
        if (!isClock(clock)) return NONE;
        if (!isFast(f)) return BAD;
        trial.copyFrom(now);
        trial.setClock(clock, f);
        rival.copyFrom(now);
        for (int n = 1; n <= MOST_ON; n++) {
            if (trial.passDay(0) >= rival.passDay(0)) return n;
        }
        return NOTHING_FOUND;
    }

    public long mixed(int clock, int a, int b, int part) {
        if (!isClock(clock) || !isFast(a) || !isFast(b) || a > b || !isPart(part)) return NO;
        trial.copyFrom(now);
        long sum = 0;
        for (int f = a; f <= b; f++) {
            trial.fast[clock] = f;
            sum += trial.costOfAll(0);
        }
        return partOf(sum, b - a + 1, part);
    }

    public int goBy(int person) {
        if (!isPerson(person)) return NONE;
        trial.copyFrom(now);
        int best = 0;
        int least = Integer.MAX_VALUE;
        for (int c = 0; c < CLOCKS; c++) {
            trial.clock[person] = c;
            int cost = trial.house.costOf(trial.late(person));
            if (cost < least) {
                least = cost;
                best = c;
            }
        }
        return best;
    }

    public int call(int n) {
        if (n < 1 || n > MOST_BEST) return BAD;
        int best = 0;
        int least = Integer.MAX_VALUE;
        for (int early = 0; early <= MOST_CALL; early++) {
            trial.copyFrom(now);
            int cost = trial.passDays(n, early);
            if (cost < least) {
                least = cost;
                best = early;
            }
        }
        return best;
    }

    public int padded(int person, int n) {
        if (!isPerson(person)) return NONE;
        if (n < 0 || n > MOST_ON) return BAD;
        trial.copyFrom(now);
        int most = Math.max(0, trial.late(person));
        for (int d = 0; d < n; d++) {
            trial.passDay(0);
            most = Math.max(most, trial.late(person));
        }
        return most > MOST_PAD ? NOTHING_FOUND : most;
    }

    // ---- tellings

    public int tellOne() {
        int best = NOTHING_FOUND;
        int least = now.costOfAll(0);
        trial.copyFrom(now);
        for (int one = 0; one < now.size; one++) {
            for (int other = 0; other < now.size; other++) {
                if (one == other || now.clock[one] != now.clock[other]) continue;
                trial.belief[other] = now.belief[one];
                int cost = trial.costOfAll(0);
                trial.belief[other] = now.belief[other];
                if (cost < least) {
                    least = cost;
                    best = 10 * one + other;
                }
            }
        }
        return best;
    }

    public int known(int person) {
        if (!isPerson(person)) return NONE;
        int circle = 0;
        int knowing = 0;
        for (int p = 0; p < now.size; p++) {
            if (now.clock[p] != now.clock[person]) continue;
            circle |= 1 << p;
            if (now.belief[p] == now.belief[person]) knowing |= 1 << p;
        }
        for (int n = 0; n <= MOST_KNOWN; n++) {
            if (knowing == circle) return n;
            knowing = knowingAfter(circle, knowing);
        }
        return NOTHING_FOUND;
    }

    // ---- seen, odds, rules, books

    public int see(int person, int late) {
        if (person == -1) {
            notes.seen = 0;
            return 0;
        }
        if (!isPerson(person)) return NONE;
        if (!isLate(late)) return BAD;
        if (notes.seen >= MOST_SEEN) return FULL;
        notes.seenWho[notes.seen] = person;
        notes.seenLate[notes.seen] = late;
        notes.seen++;
        return notes.seen;
    }

    public int fast(int clock, int what) {
        if (!isClock(clock) || !isPart(what)) return NONE;
        trial.copyFrom(now);
        int fitting = 0;
        int least = NO_NUMBER_FITS;
        for (int f = -MOST_FAST; f <= MOST_FAST; f++) {
            trial.fast[clock] = f;
            if (!trial.isAsSeen(notes)) continue;
            if (fitting == 0) least = f;
            fitting++;
        }
        return what == 0 ? fitting : least;
    }

    public int who(int late) {
        if (!isLate(late)) return BAD;
        int bits = 0;
        for (int p = 0; p < now.size; p++) {
            if (now.late(p) == late) bits |= 1 << p;
        }
        return bits;
    }

    public long odds(int n, int part) {
        if (!isFast(n) || !isPart(part) || now.size == 0) return NO;
        trial.copyFrom(now);
        int fitting = 0;
        for (int p = 0; p < now.size; p++) {
            trial.hearWireless(p);
            if (trial.nobodyLaterThan(n)) fitting++;
            trial.belief[p] = now.belief[p];
        }
        return partOf(fitting, now.size, part);
    }

    public long mean(int part) {
        if (!isPart(part) || now.size == 0) return NO;
        long sum = 0;
        for (int p = 0; p < now.size; p++) sum += now.late(p);
        return partOf(sum, now.size, part);
    }

    public int rule(int clock, int f, int n) {
        if (n == -1) {
            notes.rules = 0;
            return 0;
        }
        if (!isClock(clock)) return NONE;
        if (!isFast(f) || n < 1 || n > MOST_RULE_DAYS) return BAD;
        if (notes.rules >= MOST_RULES) return FULL;
        notes.ruleClock[notes.rules] = clock;
        notes.ruleFast[notes.rules] = f;
        notes.ruleDays[notes.rules] = n;
        notes.rules++;
        return notes.rules;
    }

    public int ruled() {
        trial.copyFrom(now);
        int cost = 0;
        for (int i = 0; i < notes.rules; i++) {
            trial.setClock(notes.ruleClock[i], notes.ruleFast[i]);
            cost += trial.passDays(notes.ruleDays[i], 0);
        }
        return cost;
    }

    public int book(int person, int late) {
        if (person == -1) {
            notes.booked = 0;
            return 0;
        }
        if (!isPerson(person)) return NONE;
        if (!isLate(late)) return BAD;
        if (notes.booked >= MOST_BOOKED) return FULL;
        notes.bookWho[notes.booked] = person;
        notes.bookLate[notes.booked] = late;
        notes.booked++;
        return notes.booked;
    }

    public int looked() {
        trial.copyFrom(now);
        for (int i = 0; i < notes.booked; i++) {
            if (trial.late(notes.bookWho[i]) != notes.bookLate[i]) return i;
            trial.passDay(0);
        }
        return NOTHING_FOUND;
    }

    // ---- acts, the image

    public int act(int person, int act, int x) {
        trace.ran = 0;
        if (!isPerson(person)) return 0;
        Person one = now.people[person];
        switch (act) {
            case 0: return one.looks(trace, x);
            case 1: return one.goes(trace, x);
            case 2: return one.tells(trace, x);
            default: return 0;
        }
    }

    public int trace(int i) {
        if (i < 0 || i >= trace.ran || i >= MOST_TRACED) return NONE;
        return trace.bodies[i];
    }

    public int as(int person, int k) {
        if (!isPerson(person) || k < 0 || k >= KINDS) return NONE;
        Person one = now.people[person];
        return isOfKind(one, k) ? one.v : OTHER_KIND;
    }

    public int image() {
        savedState.copyFrom(now);
        savedNotes.copyFrom(notes);
        imageTaken = true;
        return now.size;
    }

    public int undo() {
        if (!imageTaken) return STATE;
        now.copyFrom(savedState);
        notes.copyFrom(savedNotes);
        return now.size;
    }

    public int count(int what) {
        switch (what) {
            case 0: return now.size;
            case 1: return notes.houses;
            case 2: return notes.seen;
            case 3: return notes.rules;
            case 4: return notes.booked;
            case 5: return notes.tapeSize;
            case 6: return trace.ran;
            default: return NONE;
        }
    }

    // ---- what the calls above use

    private boolean isPerson(int number) {
        return number >= 0 && number < now.size;
    }

    private static boolean isClock(int clock) {
        return clock >= 0 && clock < CLOCKS;
    }

    private static boolean isFast(int n) {
        return n >= -MOST_FAST && n <= MOST_FAST;
    }

    private static boolean isLate(int late) {
        return late >= -MOST_LATE && late <= MOST_LATE;
    }

    private static boolean isPart(int part) {
        return part == 0 || part == 1;
    }

    private static Person newPerson(int kind, int number, int v) {
        switch (kind) {
            case 1: return new Learning(number, v);
            case 2: return new Off(number, v);
            case 3: return new Rash(number, v);
            case 4: return new Wise(number, v);
            case 5: return new Chance(number, v);
            case 6: return new Told(number, v);
            default: return new Person(number, v);
        }
    }

    private static boolean isOfKind(Person one, int kind) {
        switch (kind) {
            case 1: return one instanceof Learning;
            case 2: return one instanceof Off;
            case 3: return one instanceof Rash;
            case 4: return one instanceof Wise;
            case 5: return one instanceof Chance;
            case 6: return one instanceof Told;
            default: return true;
        }
    }

    private int howManyComeAheadOf(int person) {
        int late = now.late(person);
        int ahead = 0;
        for (int p = 0; p < now.size; p++) {
            int other = now.late(p);
            if (other < late || other == late && p < person) ahead++;
        }
        return ahead;
    }

    private static int choicesOf(int settings) {
        int choices = 1;
        for (int i = 0; i < settings; i++) choices *= ROW_CHOICES;
        return choices;
    }

    /** The k-th of the n settings of the row with this number. */
    private static int settingOf(int code, int n, int k) {
        int rest = code;
        for (int i = n - 1; i > k; i--) rest /= ROW_CHOICES;
        return rest % ROW_CHOICES * ROW_STEP;
    }

    private int costOfRow(int clock, int n, int code) {
        trial.copyFrom(now);
        int cost = 0;
        for (int k = 0; k < n; k++) {
            trial.setClock(clock, settingOf(code, n, k));
            cost += trial.passDay(0);
        }
        return cost;
    }

    /** Who knows behind a day on which all who know it tell the next one of the circle who does not. */
    private int knowingAfter(int circle, int knowing) {
        int after = knowing;
        for (int p = 0; p < now.size; p++) {
            if ((knowing >> p & 1) == 0) continue;
            for (int step = 1; step < now.size; step++) {
                int next = (p + step) % now.size;
                if (((circle & ~knowing) >> next & 1) == 0) continue;
                after |= 1 << next;
                break;
            }
        }
        return after;
    }

    /** What stands above (0) or below (1) the line of a fraction in lowest terms; below is more than 0. */
    private static long partOf(long above, long below, int part) {
        long divisor = Math.abs(above);
        long rest = below;
        for (int i = 0; i < 100 && rest != 0; i++) {
            long next = divisor % rest;
            divisor = rest;
            rest = next;
        }
        if (divisor <= 0) return NO;
        return part == 0 ? above / divisor : below / divisor;
    }

    /** The clocks, the people and the day: all that the days to come go on from. */
    private static final class State {
        final int[] fast = new int[CLOCKS];
        final Person[] people = new Person[MOST_PEOPLE];
        final int[] clock = new int[MOST_PEOPLE];
        final int[] belief = new int[MOST_PEOPLE];
        final int[] rows = new int[MOST_PEOPLE * ROW_SIZE];
        House house;
        int size = 0;
        int day = 0;
        int sets = 0;
        int change = 0;

        /** Empty places hold somebody who is not counted, so that no place is ever null. */
        State(House noHouse, Person nobody) {
            house = noHouse;
            for (int p = 0; p < MOST_PEOPLE; p++) people[p] = nobody;
        }

        void copyFrom(State other) {
            System.arraycopy(other.fast, 0, fast, 0, CLOCKS);
            System.arraycopy(other.clock, 0, clock, 0, MOST_PEOPLE);
            System.arraycopy(other.belief, 0, belief, 0, MOST_PEOPLE);
            System.arraycopy(other.rows, 0, rows, 0, MOST_PEOPLE * ROW_SIZE);
            for (int p = 0; p < MOST_PEOPLE; p++) people[p] = other.people[p];
            house = other.house;
            size = other.size;
            day = other.day;
            sets = other.sets;
            change = other.change;
        }

        void setClock(int c, int f) {
            change = f - fast[c];
            fast[c] = f;
            sets = 0;
        }

        void hearWireless(int p) {
            belief[p] = fast[clock[p]];
        }

        int late(int p) {
            return people[p].taken(this) - fast[clock[p]] - people[p].margin(this);
        }

        /** What today costs if all are called so many minutes too early. */
        int costOfAll(int early) {
            int cost = 0;
            for (int p = 0; p < size; p++) cost += house.costOf(late(p) - early);
            return cost;
        }

        int passDay(int early) {
            int cost = costOfAll(early);
            for (int p = 0; p < size; p++) belief[p] = people[p].beliefNext(this);
            day++;
            sets = Math.min(sets + 1, MOST_SETS);
            return cost;
        }

        int passDays(int n, int early) {
            int cost = 0;
            for (int i = 0; i < n; i++) cost += passDay(early);
            return cost;
        }

        boolean nobodyLaterThan(int n) {
            for (int p = 0; p < size; p++) {
                if (late(p) > n) return false;
            }
            return true;
        }

        boolean isAsSeen(Notes notes) {
            for (int i = 0; i < notes.seen; i++) {
                if (late(notes.seenWho[i]) != notes.seenLate[i]) return false;
            }
            return true;
        }
    }

    /** What is told by hand, and the tape. */
    private static final class Notes {
        final int[] tape = new int[MOST_TAPE];
        int tapeSize = 0;
        int houses = 0;
        final int[] seenWho = new int[MOST_SEEN];
        final int[] seenLate = new int[MOST_SEEN];
        int seen = 0;
        final int[] ruleClock = new int[MOST_RULES];
        final int[] ruleFast = new int[MOST_RULES];
        final int[] ruleDays = new int[MOST_RULES];
        int rules = 0;
        final int[] bookWho = new int[MOST_BOOKED];
        final int[] bookLate = new int[MOST_BOOKED];
        int booked = 0;

        void copyFrom(Notes other) {
            System.arraycopy(other.tape, 0, tape, 0, MOST_TAPE);
            System.arraycopy(other.seenWho, 0, seenWho, 0, MOST_SEEN);
            System.arraycopy(other.seenLate, 0, seenLate, 0, MOST_SEEN);
            System.arraycopy(other.ruleClock, 0, ruleClock, 0, MOST_RULES);
            System.arraycopy(other.ruleFast, 0, ruleFast, 0, MOST_RULES);
            System.arraycopy(other.ruleDays, 0, ruleDays, 0, MOST_RULES);
            System.arraycopy(other.bookWho, 0, bookWho, 0, MOST_BOOKED);
            System.arraycopy(other.bookLate, 0, bookLate, 0, MOST_BOOKED);
            tapeSize = other.tapeSize;
            houses = other.houses;
            seen = other.seen;
            rules = other.rules;
            booked = other.booked;
        }
    }

    /** The bodies that ran in the latest act. */
    private static final class Trace {
        final int[] bodies = new int[MOST_TRACED];
        int ran = 0;

        void begin(int body) {
            if (ran < MOST_TRACED) bodies[ran] = body;
            ran++;
        }
    }

    /** A text of what being late and early costs, who takes his time and who hurries; one that was never read has no clauses. */
    private static final class House {
        private static final int LATE = 0, EARLY = 1, SLOW = 2;
        private static final int MOST_CLAUSES = 10, MOST_OPEN = 5;
        private static final String TESTED = "pkvcds";
        // In the code a test is a number from 0 on, what joins tests is below 0.
        private static final int NOT = -1, AND = -2, OR = -3;

        int lateCost = 3;
        int earlyCost = 1;
        // Of each slow or rush: what it adds to a margin, and where its part of the code ends.
        private final int[] minutes = new int[MOST_CLAUSES];
        private final int[] ends = new int[MOST_CLAUSES];
        private int conditions = 0;
        private final int[] code = new int[MOST_TAPE];
        private int codeSize = 0;
        // What the tests look at, in the order of TESTED.
        private final int[] values = new int[6];
        private int[] text = new int[0];
        private int textSize = 0;
        private int at = 0;

        int costOf(int late) {
            return late > 0 ? late * lateCost : -late * earlyCost;
        }

        int marginOf(Person one, int clock, int weekday, int sets) {
            values[0] = one.number;
            values[1] = one.kind();
            values[2] = one.v;
            values[3] = clock;
            values[4] = weekday;
            values[5] = sets;
            int margin = 0;
            int from = 0;
            for (int i = 0; i < conditions; i++) {
                if (holds(from, ends[i])) margin += minutes[i];
                from = ends[i];
            }
            return margin;
        }

        /** The code joins what stands ahead of it; the open answers are the lowest bits of one number, thirteen at most. */
        private boolean holds(int from, int end) {
            int answers = 0;
            for (int i = from; i < end; i++) {
                int step = code[i];
                if (step == NOT) {
                    answers ^= 1;
                } else if (step == AND) {
                    answers = answers >> 1 & (answers | ~1);
                } else if (step == OR) {
                    answers = answers >> 1 | answers & 1;
                } else {
                    int value = values[step / 300];
                    int sign = step / 100 % 3;
                    int n = step % 100;
                    boolean so = sign == 0 ? value < n : sign == 1 ? value == n : value > n;
                    answers = answers << 1 | (so ? 1 : 0);
                }
            }
            return (answers & 1) == 1;
        }

        /** Reads the tape into this new house: the place of the fault, or -1 if there is none. */
        int readFrom(int[] tape, int tapeSize) {
            text = tape;
            textSize = tapeSize;
            for (int i = 0; i < MOST_CLAUSES; i++) {
                if (i > 0 && !take(';')) return at;
                if (!takeClause()) return at;
                if (at >= textSize) return -1;
            }
            return at;
        }

        private boolean take(char sign) {
            if (at >= textSize || text[at] != sign) return false;
            at++;
            return true;
        }

        private boolean takeWord(String word) {
            for (int i = 0; i < word.length(); i++) {
                if (!take(word.charAt(i))) return false;
            }
            return true;
        }

        /** Which of these signs comes next, and goes on behind it: its place among them; -1: none of them. */
        private int takeOneOf(String signs) {
            if (at >= textSize) return -1;
            int which = signs.indexOf((char) text[at]);
            if (which >= 0) at++;
            return which;
        }

        private boolean takeClause() {
            int word = takeOneOf("lesr");
            if (word < 0) return false;
            if (!takeWord(word == LATE ? "ate " : word == EARLY ? "arly " : word == SLOW ? "low " : "ush ")) return false;
            int n = takeNumber();
            if (n < 0) return false;
            if (word == LATE) {
                lateCost = n;
                return true;
            }
            if (word == EARLY) {
                earlyCost = n;
                return true;
            }
            if (!take(' ') || !takeEither(0)) return false;
            if (conditions < MOST_CLAUSES) {
                minutes[conditions] = word == SLOW ? -n : n;
                ends[conditions] = codeSize;
                conditions++;
            }
            return true;
        }

        /** One or two digits, no 0 ahead of another; -1: there is none. */
        private int takeNumber() {
            int n = takeOneOf("0123456789");
            if (n <= 0) return n;
            int unit = takeOneOf("0123456789");
            return unit < 0 ? n : n * 10 + unit;
        }

        private boolean takeEither(int open) {
            if (!takeBoth(open)) return false;
            for (int i = 0; i < MOST_TAPE && take('|'); i++) {
                if (!takeBoth(open)) return false;
                put(OR);
            }
            return true;
        }

        private boolean takeBoth(int open) {
            if (!takeSingle(open)) return false;
            for (int i = 0; i < MOST_TAPE && take('&'); i++) {
                if (!takeSingle(open)) return false;
                put(AND);
            }
            return true;
        }

        private boolean takeSingle(int open) {
            if (open < MOST_OPEN && take('!')) {
                if (!takeSingle(open + 1)) return false;
                put(NOT);
                return true;
            }
            if (open < MOST_OPEN && take('(')) return takeEither(open + 1) && take(')');
            int tested = takeOneOf(TESTED);
            if (tested < 0) return false;
            int sign = takeOneOf("<=>");
            if (sign < 0) return false;
            int n = takeNumber();
            if (n < 0) return false;
            put(tested * 300 + sign * 100 + n);
            return true;
        }

        /** Each step comes of a sign of its own at least, so that there is room for all. */
        private void put(int step) {
            if (codeSize >= MOST_TAPE) return;
            code[codeSize] = step;
            codeSize++;
        }
    }

    /** One of the people; what changes of it stands in a state. */
    private static class Person {
        private static final int WEEK = 7, NOT_RECKONED = Integer.MIN_VALUE;
        final int number;
        final int v;
        // A margin hangs on nothing but the house and these; questions of many days ask for it again and again.
        private final int[] margins = new int[CLOCKS * WEEK * (MOST_SETS + 1)];
        private House reckonedFor = null;

        Person(int number, int v) {
            this.number = number;
            this.v = v;
        }

        int kind() {
            return 0;
        }

        int taken(State state) {
            return 0;
        }

        /** By how much the margin of one who is rash is less. */
        int rashness() {
            return 0;
        }

        /** What it believes behind this day. */
        int beliefNext(State state) {
            return state.belief[number];
        }

        final int margin(State state) {
            if (reckonedFor != state.house) {
                Arrays.fill(margins, NOT_RECKONED);
                reckonedFor = state.house;
            }
            int clock = state.clock[number];
            int weekday = state.day % WEEK;
            int at = (clock * WEEK + weekday) * (MOST_SETS + 1) + state.sets;
            if (margins[at] == NOT_RECKONED) {
                margins[at] = state.house.marginOf(this, clock, weekday, state.sets) - rashness();
            }
            return margins[at];
        }

        int looks(Trace trace, int x) {
            trace.begin(1);
            return x + number;
        }

        int goes(Trace trace, int x) {
            trace.begin(2);
            return looks(trace, x) - v;
        }

        int tells(Trace trace, int x) {
            trace.begin(3);
            return goes(trace, x) * 2;
        }
    }

    private static class Learning extends Person {
        Learning(int number, int v) {
            super(number, v);
        }

        int kind() {
            return 1;
        }

        int taken(State state) {
            return state.belief[number];
        }

        int beliefNext(State state) {
            int between = state.fast[state.clock[number]] - state.belief[number];
            return state.belief[number] + between * v / 10;
        }

        int looks(Trace trace, int x) {
            trace.begin(11);
            return super.looks(trace, x * 3);
        }
    }

    private static class Off extends Person {
        Off(int number, int v) {
            super(number, v);
        }

        int kind() {
            return 2;
        }

        int taken(State state) {
            return state.belief[number] + v;
        }

        int goes(Trace trace, int x) {
            trace.begin(21);
            return -super.goes(trace, x);
        }
    }

    private static class Rash extends Person {
        Rash(int number, int v) {
            super(number, v);
        }

        int kind() {
            return 3;
        }

        int rashness() {
            return v;
        }

        int tells(Trace trace, int x) {
            trace.begin(31);
            return super.tells(trace, x) ^ 7;
        }
    }

    private static final class Wise extends Learning {
        Wise(int number, int v) {
            super(number, v);
        }

        int kind() {
            return 4;
        }

        int taken(State state) {
            int taken = super.taken(state);
            return state.sets < 3 ? taken + state.change / 2 : taken;
        }

        int tells(Trace trace, int x) {
            trace.begin(41);
            return super.tells(trace, x - 1) + looks(trace, 2);
        }
    }

    private static final class Chance extends Off {
        Chance(int number, int v) {
            super(number, v);
        }

        int kind() {
            return 5;
        }

        int taken(State state) {
            return super.taken(state) - Math.abs(state.fast[0] - state.fast[1]) / 2;
        }

        int looks(Trace trace, int x) {
            trace.begin(51);
            return super.looks(trace, x) ^ number;
        }
    }

    private static final class Told extends Rash {
        Told(int number, int v) {
            super(number, v);
        }

        int kind() {
            return 6;
        }

        int taken(State state) {
            return state.rows[number * ROW_SIZE + state.day % ROW_SIZE];
        }

        int goes(Trace trace, int x) {
            trace.begin(61);
            return super.goes(trace, x) + v;
        }
    }
}
