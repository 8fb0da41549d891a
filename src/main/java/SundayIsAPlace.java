import java.util.Arrays;

/**
 * Sunday is a place: seven valleys in a ring, people who travel, work and rest in them, and what comes of it.
 * The class itself holds the document's face: it looks at what it is given, refuses what may not be, and leaves
 * the rest to the classes inside it.
 */
public final class SundayIsAPlace {
    public static final int NONE = -1;

    private static final int BAD = -2;
    private static final int OTHER = -3;
    private static final int NOTHING = -4;
    private static final int STUCK = -5;
    private static final int FULL = -6;
    private static final int FINE = 0;
    private static final int REFUSAL_SORTS = 5;

    private static final int VALLEYS = 7;
    private static final int VALLEY_SETS = 1 << VALLEYS;
    private static final int SUNDAY = 6;
    private static final int FARE = 0;
    private static final int HOURS = 1;
    private static final int PAY = 2;
    private static final int BACK = 3;
    private static final int CROWD = 3;
    private static final int VALLEY_FACTS = 3;
    private static final int MOST_FARE = 9;
    private static final int MOST_HOURS = 12;
    private static final int MOST_PAY = 20;

    private static final int MOST_PASSES = 3;
    private static final int FROM = 0;
    private static final int TO = 1;
    private static final int PASS_FARE = 2;
    private static final int PASS_HOURS = 3;
    private static final int PASS_FACTS = 4;

    private static final int MOST_PEOPLE = 6;
    private static final int KIND = 0;
    private static final int A = 1;
    private static final int HOME = 2;
    private static final int AT = 3;
    private static final int DUTY = 4;
    private static final int PURSE = 5;
    private static final int TIRED = 6;
    private static final int AGE = 7;
    private static final int PERSON_FACTS = 8;
    private static final int MOST_A = 9;
    private static final int MOST_PURSE = 999;
    private static final int MOST_TIRED = 20;
    private static final int MOST_AGE = 999;
    private static final int LAZY_FROM = 15;

    private static final int PERSON = 0;
    private static final int CLERK = 1;
    private static final int RESTLESS = 2;
    private static final int PRIEST = 3;
    private static final int SMUGGLER = 4;
    private static final int STRANGER = 5;
    private static final int KINDS = 6;
    /** The KIND that each KIND stands under. */
    private static final int[] ABOVE = {NONE, PERSON, PERSON, CLERK, RESTLESS, PERSON};

    private static final int FORWARD = 0;
    private static final int BACKWARD = 1;
    private static final int FIRST_PASS_STEP = 2;
    private static final int STEPS = 5;
    private static final int WORK = 8;
    private static final int REST = 9;
    private static final int TIRED_BY_WORK = 2;
    private static final int DRAWS = 6;
    private static final int MOST_WEEKS = 60;

    private static final int CHEAPEST = 0;
    private static final int QUICKEST = 1;
    private static final int YOUNGEST = 2;
    private static final int FEWEST = 3;
    private static final int CHEAPEST_THEN_FEWEST = 4;
    private static final int MOST_WITHIN = 999;

    private static final int SHELVES = 8;
    private static final int MOST_ELEMENTS = 40;
    private static final int SORTS = 5;
    private static final int SOMEBODY = 10;

    private static final int MOST_BYTES = 250;
    private static final int MOST_LETTER = 255;
    private static final int FIRST_FAULT = -20;

    private final Land now = new Land();
    private final Land kept = new Land();
    private boolean anyKept = false;
    private final Shelves shelves = new Shelves();
    private final Tape tape = new Tape();
    private final Ways ways = new Ways();
    private final Tours tours = new Tours();
    private final Stamps stamps = new Stamps();
    private final Plan plan = new Plan();
    private final int[] refusals = new int[REFUSAL_SORTS];

    public SundayIsAPlace() {
    }

    // ---- SHELVES

    public int row(int s, int sort, int n) {
        if (!isShelf(s) || !isWithin(sort, 0, SORTS - 1) || !isWithin(n, 0, MOST_ELEMENTS)) {
            return refuse(BAD);
        }
        shelves.putRow(s, sort, n);
        return 1;
    }

    public int set(int s, int i, long v) {
        int refusal = isShelf(s) ? shelves.refusalOfRow(s) : BAD;
        if (refusal == FINE && !shelves.hasElement(s, i)) {
            refusal = BAD;
        }
        if (refusal != FINE) {
            return refuse(refusal);
        }
        shelves.putElement(s, i, v);
        return 1;
    }

    public int copy(int p, int q, int i, int j, int n) {
        int refusal = isShelf(p) && isShelf(q) ? shelves.refusalOfTwoRows(p, q) : BAD;
        if (refusal == FINE && !(shelves.hasElements(p, i, n) && shelves.hasElements(q, j, n))) {
            refusal = BAD;
        }
        if (refusal != FINE) {
            return refuse(refusal);
        }
        shelves.copyElements(p, q, i, j, n);
        return n;
    }

    public long element(int s, int i) {
        return shelves.elementAt(s, i);
    }

    public int holds(int s) {
        return isShelf(s) ? shelves.holding[s] : NONE;
    }

    public int show(int s, int person) {
        if (!isShelf(s) || (person != NONE && !now.hasPerson(person))) {
            return refuse(BAD);
        }
        shelves.holding[s] = person == NONE ? NONE : SOMEBODY + person;
        return 1;
    }

    public int says(int s, int kind) {
        if (!isShelf(s) || !isWithin(kind, 0, KINDS - 1)) {
            return refuse(BAD);
        }
        int holding = shelves.holding[s];
        if (holding == NONE) {
            return refuse(NOTHING);
        }
        int person = holding - SOMEBODY;
        if (!now.hasPerson(person) || !isOfKind(now.people[person][KIND], kind)) {
            return refuse(OTHER);
        }
        int[] one = now.people[person];
        return kind == PERSON ? one[A] : now.priceFor(one, one[AT], FORWARD);
    }

    // ---- the land and its people

    public int ask(int valley, int what, int v) {
        if (what == BACK && valley == 0 && isWithin(v, 0, MOST_FARE)) {
            int was = now.backFare;
            now.backFare = v;
            return was;
        }
        if (!isValley(valley) || !mayBeOfValley(what, v)) {
            return refuse(BAD);
        }
        int was = now.valleys[what][valley];
        now.valleys[what][valley] = v;
        return was;
    }

    public int pass(int from, int to, int fare, int hours) {
        if (!isValley(from) || !isValley(to) || from == to
                || !isWithin(fare, 0, MOST_FARE) || !isWithin(hours, 1, MOST_HOURS)) {
            return refuse(BAD);
        }
        return now.passCount >= MOST_PASSES ? refuse(FULL) : now.addPass(from, to, fare, hours);
    }

    public int person(int kind, int a, int home) {
        if (!isWithin(kind, 0, KINDS - 1) || !isWithin(a, 0, MOST_A) || !isValley(home)) {
            return refuse(BAD);
        }
        return now.peopleCount >= MOST_PEOPLE ? refuse(FULL) : now.addPerson(kind, a, home);
    }

    public int duty(int person, int valley, boolean is) {
        if (!now.hasPerson(person) || !isValley(valley)) {
            return refuse(BAD);
        }
        int[] one = now.people[person];
        int bit = 1 << valley;
        int was = (one[DUTY] & bit) != 0 ? 1 : 0;
        one[DUTY] = is ? one[DUTY] | bit : one[DUTY] & ~bit;
        return was;
    }

    public int tell(int person, int what, int v) {
        int fact = toldFact(what);
        if (!now.hasPerson(person) || fact == NONE || !isWithin(v, 0, mostOfFact(fact))) {
            return refuse(BAD);
        }
        int was = now.people[person][fact];
        now.people[person][fact] = v;
        return was;
    }

    public int valleyOf(int valley, int what) {
        if (!isValley(valley) || !isWithin(what, 0, CROWD)) {
            return refuse(BAD);
        }
        return what == CROWD ? now.peopleAt(valley) : now.valleys[what][valley];
    }

    public int passOf(int pass, int what) {
        if (!now.hasPass(pass) || !isWithin(what, 0, PASS_FACTS - 1)) {
            return refuse(BAD);
        }
        return now.passes[pass][what];
    }

    public int personOf(int person, int what) {
        if (!now.hasPerson(person) || !isWithin(what, 0, PERSON_FACTS - 1)) {
            return refuse(BAD);
        }
        return now.people[person][what];
    }

    // ---- THE TAPE

    public int feed(int letter) {
        if (!isWithin(letter, 0, MOST_LETTER)) {
            return refuse(BAD);
        }
        if (tape.size >= MOST_BYTES) {
            return refuse(FULL);
        }
        tape.putByte(letter);
        return tape.size;
    }

    public int wipe() {
        int was = tape.size;
        tape.size = 0;
        return was;
    }

    public int land() {
        int answer = tape.readLand(now);
        tape.size = 0;
        if (answer < 0) {
            refuse(BAD);
            return answer;
        }
        now.becomes(tape.draft);
        return answer;
    }

    // ---- ways and tours

    public int price(int person, int valley, int step) {
        if (!now.hasPerson(person) || !isValley(valley) || !isWithin(step, 0, STEPS - 1)) {
            return refuse(BAD);
        }
        if (now.endOf(valley, step) == NONE) {
            return refuse(STUCK);
        }
        return now.priceFor(now.people[person], valley, step);
    }

    public int way(int person, int valley, int what) {
        if (!now.hasPerson(person) || !isValley(valley) || !isWithin(what, CHEAPEST, YOUNGEST)) {
            return refuse(BAD);
        }
        return leastWay(person, valley, what);
    }

    public int tour(int person, int what) {
        if (!now.hasPerson(person) || !isWithin(what, 0, 1)) {
            return refuse(BAD);
        }
        int least = tours.leastTour(now, ways, person, NONE);
        if (what == 0) {
            return least;
        }
        return now.people[person][PURSE] >= least ? 1 : 0;
    }

    public int route(int person, int valley, int i) {
        if (!now.hasPerson(person) || !isValley(valley) || i < NONE) {
            return refuse(BAD);
        }
        int count = ways.findRoute(now, now.people[person], valley);
        if (i == NONE) {
            return count;
        }
        return i < count && i < VALLEYS ? ways.route[i] : refuse(STUCK);
    }

    public int tourOf(int person, int i) {
        if (!now.hasPerson(person) || i < NONE) {
            return refuse(BAD);
        }
        int count = tours.findOrder(now, ways, person);
        if (i == NONE) {
            return count;
        }
        return i < count && i < VALLEYS ? tours.order[i] : refuse(STUCK);
    }

    public int saved(int pass) {
        return now.hasPass(pass) ? tours.savedBy(now, ways, pass) : refuse(BAD);
    }

    public int bestPass() {
        int best = NONE;
        int most = NONE;
        for (int pass = 0; pass < now.passCount; pass++) {
            int saves = tours.savedBy(now, ways, pass);
            if (saves > most) {
                most = saves;
                best = pass;
            }
        }
        return best == NONE ? refuse(STUCK) : best;
    }

    public int first(int what) {
        if (!isWithin(what, 0, AGE - PURSE)) {
            return refuse(BAD);
        }
        int best = NONE;
        int most = NONE;
        for (int person = 0; person < now.peopleCount; person++) {
            int has = now.people[person][PURSE + what];
            if (has > most) {
                most = has;
                best = person;
            }
        }
        return best == NONE ? refuse(STUCK) : best;
    }

    public int works(int person) {
        if (!now.hasPerson(person)) {
            return refuse(BAD);
        }
        int[] one = now.people[person];
        int least = tours.leastTour(now, ways, person, NONE);
        int lacks = least - one[PURSE];
        if (lacks <= 0) {
            return 0;
        }
        int pay = now.payAt(one[AT]);
        return pay <= 0 || least > MOST_PURSE ? NONE : (lacks + pay - 1) / pay;
    }

    public int steps(int person, int valley) {
        if (!now.hasPerson(person) || !isValley(valley)) {
            return refuse(BAD);
        }
        return leastWay(person, valley, FEWEST);
    }

    public int within(int person, int v, int what) {
        if (!now.hasPerson(person) || !isWithin(v, 0, MOST_WITHIN) || !isWithin(what, 0, 1)) {
            return refuse(BAD);
        }
        int[] one = now.people[person];
        ways.measure(now, one, what == 0 ? QUICKEST : CHEAPEST, NONE);
        int set = 0;
        for (int valley = 0; valley < VALLEYS; valley++) {
            if (ways.between(one[AT], valley) <= v) {
                set |= 1 << valley;
            }
        }
        return set;
    }

    public int crowd() {
        int best = 0;
        int most = 0;
        for (int valley = 0; valley < VALLEYS; valley++) {
            int there = now.peopleAt(valley);
            if (there > most) {
                most = there;
                best = valley;
            }
        }
        return best;
    }

    public int ring(int person) {
        if (!now.hasPerson(person)) {
            return refuse(BAD);
        }
        int sum = 0;
        for (int valley = 0; valley < VALLEYS; valley++) {
            sum += now.priceFor(now.people[person], valley, FORWARD);
        }
        return sum;
    }

    public int dearest(int person) {
        if (!now.hasPerson(person)) {
            return refuse(BAD);
        }
        int[] one = now.people[person];
        int best = NONE;
        int most = NONE;
        for (int step = 0; step < STEPS; step++) {
            int price = now.endOf(one[AT], step) == NONE ? NONE : now.priceFor(one, one[AT], step);
            if (price > most) {
                most = price;
                best = step;
            }
        }
        return best;
    }

    public int alike(int person, int other) {
        if (!now.hasPerson(person) || !now.hasPerson(other) || person == other) {
            return refuse(BAD);
        }
        int set = 0;
        for (int valley = 0; valley < VALLEYS; valley++) {
            if (leastWay(person, valley, CHEAPEST) == leastWay(other, valley, CHEAPEST)) {
                set |= 1 << valley;
            }
        }
        return set;
    }

    public int homes(int person) {
        if (person != NONE && !now.hasPerson(person)) {
            return refuse(BAD);
        }
        if (now.peopleCount == 0) {
            return refuse(STUCK);
        }
        int least = tours.settle(now, ways);
        return person == NONE ? least : tours.settled[person];
    }

    public int market() {
        return ways.bestPlace(now, CHEAPEST);
    }

    public int meet(int what) {
        if (!isWithin(what, 0, 1)) {
            return refuse(BAD);
        }
        int valley = ways.bestPlace(now, QUICKEST);
        return what == 0 ? valley : ways.burdens[valley];
    }

    // ---- STAMPS and PLANS

    public int journeys(int s, int n, int valley, int what) {
        if (!isValley(valley) || !isWithin(what, 0, 3)) {
            return refuse(BAD);
        }
        int refusal = refusalOfElements(s, n);
        if (refusal == FINE && !areStamps(s, n)) {
            refusal = STUCK;
        }
        if (refusal != FINE) {
            return refuse(refusal);
        }
        stamps.follow(now, shelves.elements[s], n, valley);
        switch (what) {
            case 0: return stamps.howMany(n);
            case 1: return stamps.comeTo(n);
            case 2: return stamps.forged(n);
            default: return stamps.howManySure(now, shelves.elements[s], n);
        }
    }

    public int judge(int s, int n, int person) {
        int refusal = now.hasPerson(person) ? refusalOfElements(s, n) : BAD;
        if (refusal != FINE) {
            return refuse(refusal);
        }
        return plan.findWrong(now, shelves.elements[s], n, person);
    }

    public int behind(int s, int n, int person, int what) {
        int refusal = isWithin(what, 0, 4) ? refusalOfPlan(s, n, person) : BAD;
        if (refusal != FINE) {
            return refuse(refusal);
        }
        switch (what) {
            case 0: return plan.one[AT];
            case 1: return plan.one[PURSE];
            case 2: return plan.one[TIRED];
            case 3: return plan.one[AGE];
            default: return plan.lazy;
        }
    }

    public int done(int s, int n, int person) {
        int refusal = refusalOfPlan(s, n, person);
        if (refusal != FINE) {
            return refuse(refusal);
        }
        int[] one = now.people[person];
        System.arraycopy(plan.one, 0, one, 0, PERSON_FACTS);
        now.actCount += n;
        return one[AT];
    }

    public int longest(int person) {
        if (!now.hasPerson(person)) {
            return refuse(BAD);
        }
        int[] one = now.people[person];
        return one[AT] == SUNDAY ? 0 : (MOST_TIRED - one[TIRED]) / TIRED_BY_WORK;
    }

    // ---- deeds in truth

    public int act(int person, int act) {
        if (!now.hasPerson(person) || !isAct(act)) {
            return refuse(BAD);
        }
        return now.actInTruth(person, act) ? now.people[person][AT] : refuse(STUCK);
    }

    public int weeks(int n) {
        return isWithin(n, 1, MOST_WEEKS) ? now.passWeeks(n) : refuse(BAD);
    }

    public int seed(int v) {
        int was = now.drawSeed;
        now.drawSeed = v;
        return was;
    }

    public int image() {
        kept.becomes(now);
        anyKept = true;
        return 1;
    }

    public int back() {
        if (!anyKept) {
            return refuse(STUCK);
        }
        now.becomes(kept);
        shelves.keepPeopleBelow(now.peopleCount);
        return 1;
    }

    public int status(int what) {
        switch (what) {
            case 0: return now.peopleCount;
            case 1: return now.passCount;
            case 2: return now.backFare;
            case 3: return now.together(PURSE);
            case 4: return now.together(AGE);
            case 5: return now.actCount;
            case 6: return tape.size;
            case 7: return now.drawSeed;
            case 8: return shelves.howManyHold();
            default: return isWithin(what, 12, 11 + REFUSAL_SORTS) ? refusals[what - 12] : NONE;
        }
    }

    // ---- what the calls share

    private int refuse(int refusal) {
        int sort = BAD - refusal;
        if (isWithin(sort, 0, REFUSAL_SORTS - 1)) {
            refusals[sort]++;
        }
        return refusal;
    }

    private int leastWay(int person, int valley, int what) {
        int[] one = now.people[person];
        ways.measure(now, one, what, NONE);
        return ways.between(one[AT], valley);
    }

    private int refusalOfElements(int s, int n) {
        if (!isShelf(s) || !isWithin(n, 0, MOST_ELEMENTS)) {
            return BAD;
        }
        int refusal = shelves.refusalOfRow(s);
        return refusal == FINE && n > shelves.sizes[s] ? BAD : refusal;
    }

    private boolean areStamps(int s, int n) {
        for (int i = 0; i < n; i++) {
            long stamp = shelves.elementAt(s, i);
            if (stamp < NONE || stamp >= VALLEYS) {
                return false;
            }
        }
        return true;
    }

    /** Behind this, if it is FINE, the plan holds how things stand behind it. */
    private int refusalOfPlan(int s, int n, int person) {
        int refusal = now.hasPerson(person) ? refusalOfElements(s, n) : BAD;
        if (refusal != FINE) {
            return refusal;
        }
        return plan.findWrong(now, shelves.elements[s], n, person) == NONE ? FINE : STUCK;
    }

    private static boolean isWithin(int v, int low, int high) {
        return v >= low && v <= high;
    }

    private static boolean isValley(int v) {
        return v >= 0 && v < VALLEYS;
    }

    private static boolean isShelf(int s) {
        return s >= 0 && s < SHELVES;
    }

    private static boolean isAct(long act) {
        return (act >= 0 && act < STEPS) || act == WORK || act == REST;
    }

    private static boolean isOfKind(int kind, int wanted) {
        int k = kind;
        for (int level = 0; level < KINDS && k >= 0 && k < KINDS; level++) {
            if (k == wanted) {
                return true;
            }
            k = ABOVE[k];
        }
        return false;
    }

    private static boolean mayBeOfValley(int what, int v) {
        switch (what) {
            case FARE: return isWithin(v, 0, MOST_FARE);
            case HOURS: return isWithin(v, 1, MOST_HOURS);
            case PAY: return isWithin(v, 0, MOST_PAY);
            default: return false;
        }
    }

    private static int toldFact(int what) {
        switch (what) {
            case 0: return AT;
            case 1: return PURSE;
            case 2: return TIRED;
            case 3: return HOME;
            default: return NONE;
        }
    }

    private static int mostOfFact(int fact) {
        switch (fact) {
            case PURSE: return MOST_PURSE;
            case TIRED: return MOST_TIRED;
            default: return VALLEYS - 1;
        }
    }

    /** What an image keeps: the VALLEYS, PASSES and PEOPLE, SEED, and how many acts were done in truth. */
    private static final class Land {
        final int[][] valleys = new int[VALLEY_FACTS][VALLEYS];
        final int[][] passes = new int[MOST_PASSES][PASS_FACTS];
        final int[][] people = new int[MOST_PEOPLE][PERSON_FACTS];
        int passCount = 0;
        int peopleCount = 0;
        int backFare = 2;
        int drawSeed = 1;
        int actCount = 0;

        Land() {
            Arrays.fill(valleys[FARE], 1);
            Arrays.fill(valleys[HOURS], 3);
            Arrays.fill(valleys[PAY], 4);
        }

        void becomes(Land other) {
            copyTable(other.valleys, valleys, VALLEY_FACTS, VALLEYS);
            copyTable(other.passes, passes, MOST_PASSES, PASS_FACTS);
            copyTable(other.people, people, MOST_PEOPLE, PERSON_FACTS);
            passCount = other.passCount;
            peopleCount = other.peopleCount;
            backFare = other.backFare;
            drawSeed = other.drawSeed;
            actCount = other.actCount;
        }

        private static void copyTable(int[][] from, int[][] to, int rows, int columns) {
            for (int i = 0; i < rows; i++) {
                System.arraycopy(from[i], 0, to[i], 0, columns);
            }
        }

        boolean hasPerson(int person) {
            return person >= 0 && person < peopleCount && person < MOST_PEOPLE;
        }

        boolean hasPass(int pass) {
            return pass >= 0 && pass < passCount && pass < MOST_PASSES;
        }

        int addPass(int from, int to, int fare, int hours) {
            if (passCount >= MOST_PASSES) {
                return NONE;
            }
            int[] pass = passes[passCount];
            pass[FROM] = from;
            pass[TO] = to;
            pass[PASS_FARE] = fare;
            pass[PASS_HOURS] = hours;
            return passCount++;
        }

        int addPerson(int kind, int a, int home) {
            if (peopleCount >= MOST_PEOPLE) {
                return NONE;
            }
            int[] one = people[peopleCount];
            one[KIND] = kind;
            one[A] = a;
            one[HOME] = home;
            one[AT] = home;
            one[DUTY] = 0;
            one[PURSE] = 20;
            one[TIRED] = 0;
            one[AGE] = 0;
            return peopleCount++;
        }

        int peopleAt(int valley) {
            int count = 0;
            for (int i = 0; i < peopleCount; i++) {
                if (people[i][AT] == valley) {
                    count++;
                }
            }
            return count;
        }

        int together(int fact) {
            int sum = 0;
            for (int i = 0; i < peopleCount; i++) {
                sum += people[i][fact];
            }
            return sum;
        }

        int payAt(int valley) {
            return isValley(valley) && valley != SUNDAY ? valleys[PAY][valley] : 0;
        }

        /** The PASS that a STEP from a VALLEY is, or NONE. */
        private int passFrom(int valley, int step) {
            int pass = step - FIRST_PASS_STEP;
            boolean is = pass >= 0 && pass < passCount && pass < MOST_PASSES;
            return is && passes[pass][FROM] == valley ? pass : NONE;
        }

        /** The VALLEY that a STEP ends in, or NONE if there is no such STEP. */
        int endOf(int valley, int step) {
            if (!isValley(valley)) {
                return NONE;
            }
            if (step == FORWARD) {
                return (valley + 1) % VALLEYS;
            }
            if (step == BACKWARD) {
                return valleyAhead(valley);
            }
            int pass = passFrom(valley, step);
            return pass == NONE ? NONE : passes[pass][TO];
        }

        private static int valleyAhead(int valley) {
            return (valley + VALLEYS - 1) % VALLEYS;
        }

        private int fareOf(int valley, int step) {
            if (!isValley(valley)) {
                return 0;
            }
            if (step == FORWARD) {
                return valleys[FARE][valley];
            }
            if (step == BACKWARD) {
                return valleys[FARE][valleyAhead(valley)] + backFare;
            }
            int pass = passFrom(valley, step);
            return pass == NONE ? 0 : passes[pass][PASS_FARE];
        }

        int hoursOf(int valley, int step) {
            if (!isValley(valley)) {
                return 0;
            }
            if (step == FORWARD) {
                return valleys[HOURS][valley];
            }
            if (step == BACKWARD) {
                return valleys[HOURS][valleyAhead(valley)];
            }
            int pass = passFrom(valley, step);
            return pass == NONE ? 0 : passes[pass][PASS_HOURS];
        }

        int priceFor(int[] one, int valley, int step) {
            int fare = fareOf(valley, step);
            switch (one[KIND]) {
                case CLERK: return fare / 2;
                case PRIEST: return Math.max(0, fare / 2 - one[A]);
                case RESTLESS: return fare + one[A];
                case SMUGGLER: return step >= FIRST_PASS_STEP ? 0 : fare + one[A];
                case STRANGER: return 2 * fare;
                default: return fare;
            }
        }

        /** Does an act of one, if it can be; else nothing is changed. */
        boolean tryAct(int[] one, int act) {
            switch (act) {
                case WORK: return tryWork(one);
                case REST: return tryRest(one);
                default: return tryStep(one, act);
            }
        }

        private boolean tryStep(int[] one, int step) {
            int end = endOf(one[AT], step);
            if (end == NONE || one[TIRED] + 1 > MOST_TIRED) {
                return false;
            }
            int price = priceFor(one, one[AT], step);
            if (one[PURSE] < price) {
                return false;
            }
            one[PURSE] -= price;
            one[TIRED]++;
            one[AT] = end;
            if (step == FORWARD) {
                one[AGE] = Math.min(MOST_AGE, one[AGE] + 1);
            }
            return true;
        }

        private boolean tryWork(int[] one) {
            if (one[AT] == SUNDAY || one[TIRED] + TIRED_BY_WORK > MOST_TIRED) {
                return false;
            }
            one[PURSE] = Math.min(MOST_PURSE, one[PURSE] + payAt(one[AT]));
            one[TIRED] += TIRED_BY_WORK;
            return true;
        }

        private static boolean tryRest(int[] one) {
            if (one[AT] != SUNDAY) {
                return false;
            }
            one[TIRED] = isOfKind(one[KIND], RESTLESS) ? one[TIRED] / 2 : 0;
            return true;
        }

        boolean actInTruth(int person, int act) {
            boolean can = hasPerson(person) && tryAct(people[person], act);
            if (can) {
                actCount++;
            }
            return can;
        }

        int passWeeks(int n) {
            int count = 0;
            for (int week = 0; week < n; week++) {
                for (int person = 0; person < peopleCount; person++) {
                    if (actInTruth(person, drawAct(people[person]))) {
                        count++;
                    }
                }
            }
            return count;
        }

        private int drawAct(int[] one) {
            drawSeed = drawSeed * 1103515245 + 12345;
            int draw = (drawSeed >>> 16) % DRAWS;
            if (draw < STEPS) {
                return draw;
            }
            return one[AT] == SUNDAY ? REST : WORK;
        }
    }

    /** The SHELVES, each with room for its longest ROW from the start, so that no call makes one anew. */
    private static final class Shelves {
        final int[] holding = new int[SHELVES];
        final int[] sizes = new int[SHELVES];
        final long[][] elements = new long[SHELVES][MOST_ELEMENTS];

        Shelves() {
            Arrays.fill(holding, NONE);
        }

        void putRow(int s, int sort, int n) {
            holding[s] = sort;
            sizes[s] = n;
            Arrays.fill(elements[s], 0L);
        }

        private boolean isRow(int s) {
            return holding[s] >= 0 && holding[s] < SORTS;
        }

        int refusalOfRow(int s) {
            if (holding[s] == NONE) {
                return NOTHING;
            }
            return isRow(s) ? FINE : OTHER;
        }

        int refusalOfTwoRows(int p, int q) {
            int first = refusalOfRow(p);
            int second = refusalOfRow(q);
            boolean twoSorts = first == FINE && second == FINE && holding[p] != holding[q];
            if (first == OTHER || second == OTHER || twoSorts) {
                return OTHER;
            }
            return first == NOTHING || second == NOTHING ? NOTHING : FINE;
        }

        boolean hasElement(int s, int i) {
            return isShelf(s) && isRow(s) && i >= 0 && i < sizes[s] && i < MOST_ELEMENTS;
        }

        boolean hasElements(int s, int i, int n) {
            return isShelf(s) && isRow(s) && i >= 0 && n >= 0 && i <= sizes[s] && n <= sizes[s] - i;
        }

        void putElement(int s, int i, long v) {
            if (hasElement(s, i)) {
                elements[s][i] = narrowed(holding[s], v);
            }
        }

        private static long narrowed(int sort, long v) {
            switch (sort) {
                case 0: return (byte) v;
                case 1: return (short) v;
                case 2: return (int) v;
                case 3: return v;
                default: return v != 0L ? 1L : 0L;
            }
        }

        long elementAt(int s, int i) {
            return hasElement(s, i) ? elements[s][i] : 0L;
        }

        void copyElements(int p, int q, int i, int j, int n) {
            if (hasElements(p, i, n) && hasElements(q, j, n)) {
                System.arraycopy(elements[p], i, elements[q], j, n);
            }
        }

        int howManyHold() {
            int count = 0;
            for (int s = 0; s < SHELVES; s++) {
                if (holding[s] != NONE) {
                    count++;
                }
            }
            return count;
        }

        void keepPeopleBelow(int peopleCount) {
            for (int s = 0; s < SHELVES; s++) {
                if (holding[s] >= SOMEBODY + peopleCount) {
                    holding[s] = NONE;
                }
            }
        }
    }

    /** The least of something between all VALLEYS for one of the PEOPLE, and what is read from that. */
    private static final class Ways {
        /** Above what any way or TOUR can cost. */
        private static final int FAR = 1000000;
        /** Above the STEPS of each way without a loop: PRICES count ahead of STEPS. */
        private static final int STEP_ROOM = 64;

        final int[][] least = new int[VALLEYS][VALLEYS];
        final int[] route = new int[VALLEYS];
        final int[] burdens = new int[VALLEYS];

        /** Looks at every STEP but that by the PASS without (NONE: at all). */
        void measure(Land land, int[] one, int what, int without) {
            for (int v = 0; v < VALLEYS; v++) {
                Arrays.fill(least[v], FAR);
                least[v][v] = 0;
                for (int step = 0; step < STEPS; step++) {
                    int end = land.endOf(v, step);
                    boolean left = without != NONE && step == without + FIRST_PASS_STEP;
                    if (end != NONE && !left) {
                        least[v][end] = Math.min(least[v][end], weight(land, one, v, step, what));
                    }
                }
            }
            for (int by = 0; by < VALLEYS; by++) {
                shortenBy(by);
            }
        }

        private void shortenBy(int by) {
            for (int v = 0; v < VALLEYS; v++) {
                for (int w = 0; w < VALLEYS; w++) {
                    least[v][w] = Math.min(least[v][w], least[v][by] + least[by][w]);
                }
            }
        }

        private static int weight(Land land, int[] one, int valley, int step, int what) {
            switch (what) {
                case CHEAPEST: return land.priceFor(one, valley, step);
                case QUICKEST: return land.hoursOf(valley, step);
                case YOUNGEST: return step == FORWARD ? 1 : 0;
                case CHEAPEST_THEN_FEWEST: return land.priceFor(one, valley, step) * STEP_ROOM + 1;
                default: return 1;
            }
        }

        int between(int from, int to) {
            return isValley(from) && isValley(to) ? least[from][to] : 0;
        }

        /** Fills the route: at each place the first STEP behind which the least can still be had. */
        int findRoute(Land land, int[] one, int goal) {
            measure(land, one, CHEAPEST_THEN_FEWEST, NONE);
            int at = one[AT];
            int count = 0;
            while (count < VALLEYS && at != goal) {
                int step = firstStep(land, one, at, goal);
                route[count] = step;
                at = land.endOf(at, step);
                count++;
            }
            return count;
        }

        private int firstStep(Land land, int[] one, int at, int goal) {
            for (int step = 0; step < STEPS; step++) {
                int end = land.endOf(at, step);
                int more = weight(land, one, at, step, CHEAPEST_THEN_FEWEST);
                if (end != NONE && more + between(end, goal) == between(at, goal)) {
                    return step;
                }
            }
            return NONE;
        }

        /** Where all have it best: by CHEAPEST the least of all together counts, by QUICKEST the greatest of all. */
        int bestPlace(Land land, int what) {
            Arrays.fill(burdens, 0);
            for (int person = 0; person < land.peopleCount; person++) {
                int[] one = land.people[person];
                measure(land, one, what, NONE);
                for (int v = 0; v < VALLEYS; v++) {
                    int more = between(one[AT], v);
                    burdens[v] = what == CHEAPEST ? burdens[v] + more : Math.max(burdens[v], more);
                }
            }
            int best = 0;
            for (int v = 1; v < VALLEYS; v++) {
                if (burdens[v] < burdens[best]) {
                    best = v;
                }
            }
            return best;
        }
    }

    /** The cheapest TOURS, and the HOMES by which all TOURS together are least. */
    private static final class Tours {
        /** By a set of VALLEYS and a VALLEY: the least from there to all of the set, and HOME at last. */
        final int[] still = new int[VALLEY_SETS * VALLEYS];
        final int[] order = new int[VALLEYS];
        final int[][] homeCosts = new int[MOST_PEOPLE][VALLEYS];
        /** By the set of VALLEYS that those ahead live in: the least of all behind them together. */
        final int[] behindThem = new int[VALLEY_SETS];
        final int[] settled = new int[MOST_PEOPLE];

        int leastTour(Land land, Ways ways, int person, int without) {
            int[] one = land.people[person];
            ways.measure(land, one, CHEAPEST, without);
            return leastFrom(ways, one[AT], one[DUTY], one[HOME]);
        }

        private int leastFrom(Ways ways, int from, int duty, int home) {
            int wanted = duty & ~(1 << from);
            for (int set = 0; set <= wanted; set++) {
                if ((set & ~wanted) == 0) {
                    fillSet(ways, set, (wanted & ~set) | (1 << from), home);
                }
            }
            return still[wanted * VALLEYS + from];
        }

        /** Only those VALLEYS are filled from which a TOUR may have the set still to come. */
        private void fillSet(Ways ways, int set, int starts, int home) {
            for (int v = 0; v < VALLEYS; v++) {
                if ((starts & (1 << v)) != 0) {
                    still[set * VALLEYS + v] = set == 0 ? ways.between(v, home) : leastByNext(ways, set, v);
                }
            }
        }

        private int leastByNext(Ways ways, int set, int v) {
            int best = Ways.FAR;
            for (int next = 0; next < VALLEYS; next++) {
                if ((set & (1 << next)) != 0) {
                    best = Math.min(best, leastOver(ways, set, v, next));
                }
            }
            return best;
        }

        private int leastOver(Ways ways, int set, int v, int next) {
            return ways.least[v][next] + still[(set & ~(1 << next)) * VALLEYS + next];
        }

        /** Fills the order, and tells how many VALLEYS it has. */
        int findOrder(Land land, Ways ways, int person) {
            leastTour(land, ways, person, NONE);
            int at = land.people[person][AT];
            int set = land.people[person][DUTY] & ~(1 << at);
            int count = 0;
            while (count < VALLEYS && set != 0) {
                at = firstNext(ways, set, at);
                order[count] = at;
                set &= ~(1 << at);
                count++;
            }
            return count;
        }

        private int firstNext(Ways ways, int set, int at) {
            int best = 0;
            for (int next = VALLEYS - 1; next >= 0; next--) {
                if ((set & (1 << next)) != 0 && leastOver(ways, set, at, next) == still[set * VALLEYS + at]) {
                    best = next;
                }
            }
            return best;
        }

        int savedBy(Land land, Ways ways, int pass) {
            int sum = 0;
            for (int person = 0; person < land.peopleCount; person++) {
                sum += leastTour(land, ways, person, pass) - leastTour(land, ways, person, NONE);
            }
            return sum;
        }

        /** Fills where each is settled, and tells what all TOURS together cost then. */
        int settle(Land land, Ways ways) {
            int count = land.peopleCount;
            for (int person = 0; person < count; person++) {
                int[] one = land.people[person];
                ways.measure(land, one, CHEAPEST, NONE);
                for (int v = 0; v < VALLEYS; v++) {
                    homeCosts[person][v] = leastFrom(ways, v, one[DUTY], v);
                }
            }
            for (int taken = VALLEY_SETS - 1; taken >= 0; taken--) {
                int person = Integer.bitCount(taken);
                int home = person < count ? firstHome(person, taken) : NONE;
                behindThem[taken] = home == NONE ? 0 : costWith(person, taken, home);
            }
            int taken = 0;
            for (int person = 0; person < count; person++) {
                settled[person] = Math.max(0, firstHome(person, taken));
                taken |= 1 << settled[person];
            }
            return behindThem[0];
        }

        private int firstHome(int person, int taken) {
            int best = NONE;
            for (int v = 0; v < VALLEYS; v++) {
                boolean free = (taken & (1 << v)) == 0;
                if (free && (best == NONE || costWith(person, taken, v) < costWith(person, taken, best))) {
                    best = v;
                }
            }
            return best;
        }

        private int costWith(int person, int taken, int home) {
            return homeCosts[person][home] + behindThem[taken | (1 << home)];
        }
    }

    /** The JOURNEYS that fit a ROW of STAMPS. */
    private static final class Stamps {
        private static final int MOST_JOURNEYS = 1000000;

        /** By a number of STEPS and a VALLEY: how many JOURNEYS that fit so far have come there. */
        final int[][] arrived = new int[MOST_ELEMENTS + 1][VALLEYS];

        void follow(Land land, long[] row, int n, int start) {
            Arrays.fill(arrived[0], 0);
            arrived[0][start] = 1;
            for (int i = 0; i < n && i < MOST_ELEMENTS && i < row.length; i++) {
                Arrays.fill(arrived[i + 1], 0);
                for (int v = 0; v < VALLEYS; v++) {
                    stepOn(land, i, v, row[i]);
                }
            }
        }

        private void stepOn(Land land, int i, int valley, long stamp) {
            for (int step = 0; step < STEPS; step++) {
                int end = land.endOf(valley, step);
                if (end != NONE && (stamp == NONE || stamp == end)) {
                    int sum = arrived[i + 1][end] + arrived[i][valley];
                    arrived[i + 1][end] = Math.min(MOST_JOURNEYS, sum);
                }
            }
        }

        int howMany(int n) {
            int sum = 0;
            for (int v = 0; v < VALLEYS; v++) {
                sum = Math.min(MOST_JOURNEYS, sum + arrived[n][v]);
            }
            return sum;
        }

        /** The VALLEYS to which JOURNEYS have come behind i STEPS. */
        int comeTo(int i) {
            int set = 0;
            for (int v = 0; v < VALLEYS; v++) {
                if (arrived[i][v] > 0) {
                    set |= 1 << v;
                }
            }
            return set;
        }

        int forged(int n) {
            for (int i = 0; i < n; i++) {
                if (comeTo(i + 1) == 0) {
                    return i;
                }
            }
            return NONE;
        }

        /** Goes from the end back, so that only VALLEYS from which the whole ROW can fit are counted. */
        int howManySure(Land land, long[] row, int n) {
            int count = 0;
            int fitting = comeTo(n);
            for (int i = n; i > 0; i--) {
                if (row[i - 1] == NONE && Integer.bitCount(fitting) == 1) {
                    count++;
                }
                fitting = comeTo(i - 1) & leadingInto(land, fitting);
            }
            return count;
        }

        private static int leadingInto(Land land, int goals) {
            int set = 0;
            for (int v = 0; v < VALLEYS; v++) {
                for (int step = 0; step < STEPS; step++) {
                    int end = land.endOf(v, step);
                    if (end != NONE && (goals & (1 << end)) != 0) {
                        set |= 1 << v;
                    }
                }
            }
            return set;
        }
    }

    /** A told PLAN, tried on a likeness of one, so that nothing in the land is changed. */
    private static final class Plan {
        final int[] one = new int[PERSON_FACTS];
        int lazy = NONE;

        int findWrong(Land land, long[] acts, int n, int person) {
            System.arraycopy(land.people[person], 0, one, 0, PERSON_FACTS);
            lazy = NONE;
            for (int i = 0; i < n && i < acts.length; i++) {
                if (!isAct(acts[i]) || !land.tryAct(one, (int) acts[i])) {
                    return i;
                }
                if (lazy == NONE && one[TIRED] >= LAZY_FROM) {
                    lazy = i;
                }
            }
            return NONE;
        }
    }

    /** THE TAPE, and the reading of a LAND from it. */
    private static final class Tape {
        private static final int END = 0;
        private static final int WORD = 1;
        private static final int NUMBER = 2;
        private static final int SIGN = 3;
        private static final int UNKNOWN = 4;

        private static final int BLANK = 32;
        private static final int MOST_DIGITS = 3;

        /** The STATEMENTS of a VALLEY bear the numbers of its facts. */
        private static final int FARE_STATEMENT = FARE;
        private static final int HOURS_STATEMENT = HOURS;
        private static final int PAY_STATEMENT = PAY;
        private static final int BACK_STATEMENT = 3;
        private static final int PASS_STATEMENT = 4;
        private static final int PERSON_STATEMENT = 5;
        private static final int DUTY_STATEMENT = 6;
        private static final int AT_STATEMENT = 7;
        private static final int PURSE_STATEMENT = 8;
        private static final int STATEMENTS = 9;

        private static final int VALLEY_NUMBER = 0;
        private static final int FARE_NUMBER = 1;
        private static final int HOURS_NUMBER = 2;
        private static final int PAY_NUMBER = 3;
        private static final int KIND_NUMBER = 4;
        private static final int A_NUMBER = 5;
        private static final int PURSE_NUMBER = 6;
        private static final int PERSON_NUMBER = 7;
        private static final int OTHER_VALLEY_NUMBER = 8;

        private static final int MOST_NUMBERS = 4;
        /** The NUMBERS of each STATEMENT. */
        private static final int[] SHAPES = {
            VALLEY_NUMBER, FARE_NUMBER, NONE, NONE,
            VALLEY_NUMBER, HOURS_NUMBER, NONE, NONE,
            VALLEY_NUMBER, PAY_NUMBER, NONE, NONE,
            FARE_NUMBER, NONE, NONE, NONE,
            VALLEY_NUMBER, OTHER_VALLEY_NUMBER, FARE_NUMBER, HOURS_NUMBER,
            KIND_NUMBER, A_NUMBER, VALLEY_NUMBER, NONE,
            PERSON_NUMBER, VALLEY_NUMBER, NONE, NONE,
            PERSON_NUMBER, VALLEY_NUMBER, NONE, NONE,
            PERSON_NUMBER, PURSE_NUMBER, NONE, NONE
        };

        final Land draft = new Land();
        final int[] bytes = new int[MOST_BYTES];
        int size = 0;
        private final int[] numbers = new int[MOST_NUMBERS];
        private int token = END;
        private int tokenStart = 0;
        private int tokenEnd = 0;

        void putByte(int letter) {
            if (size < MOST_BYTES) {
                bytes[size] = letter;
                size++;
            }
        }

        /** How many STATEMENTS came to the draft, or FIRST_FAULT less the FAULT. */
        int readLand(Land there) {
            draft.becomes(there);
            tokenEnd = 0;
            for (int count = 1; count <= MOST_BYTES; count++) {
                if (!readStatement()) {
                    return FIRST_FAULT - tokenStart;
                }
                nextToken();
                if (token == END) {
                    return count;
                }
                if (token != SIGN) {
                    return FIRST_FAULT - tokenStart;
                }
            }
            return FIRST_FAULT - tokenStart;
        }

        /** If it can't be read, tokenStart is the FAULT. */
        private boolean readStatement() {
            nextToken();
            int statement = token == WORD ? statementOfWord() : NONE;
            if (statement == NONE || !hasRoomFor(statement)) {
                return false;
            }
            for (int i = 0; i < MOST_NUMBERS; i++) {
                int sort = SHAPES[statement * MOST_NUMBERS + i];
                if (sort != NONE && !readNumber(i, sort)) {
                    return false;
                }
            }
            comeToPass(statement);
            return true;
        }

        private boolean hasRoomFor(int statement) {
            switch (statement) {
                case PASS_STATEMENT: return draft.passCount < MOST_PASSES;
                case PERSON_STATEMENT: return draft.peopleCount < MOST_PEOPLE;
                default: return true;
            }
        }

        private boolean readNumber(int i, int sort) {
            nextToken();
            if (token != NUMBER || tokenEnd - tokenStart > MOST_DIGITS) {
                return false;
            }
            int v = tokenNumber();
            numbers[i] = v;
            int low = sort == HOURS_NUMBER ? 1 : 0;
            boolean same = sort == OTHER_VALLEY_NUMBER && v == numbers[0];
            return v >= low && v <= mostOf(sort) && !same;
        }

        private int mostOf(int sort) {
            switch (sort) {
                case FARE_NUMBER: return MOST_FARE;
                case HOURS_NUMBER: return MOST_HOURS;
                case PAY_NUMBER: return MOST_PAY;
                case KIND_NUMBER: return KINDS - 1;
                case A_NUMBER: return MOST_A;
                case PURSE_NUMBER: return MOST_PURSE;
                case PERSON_NUMBER: return draft.peopleCount - 1;
                default: return VALLEYS - 1;
            }
        }

        private void comeToPass(int statement) {
            switch (statement) {
                case FARE_STATEMENT:
                case HOURS_STATEMENT:
                case PAY_STATEMENT:
                    draft.valleys[statement][numbers[0]] = numbers[1];
                    break;
                case BACK_STATEMENT:
                    draft.backFare = numbers[0];
                    break;
                case PASS_STATEMENT:
                    draft.addPass(numbers[0], numbers[1], numbers[2], numbers[3]);
                    break;
                case PERSON_STATEMENT:
                    draft.addPerson(numbers[0], numbers[1], numbers[2]);
                    break;
                case DUTY_STATEMENT:
                    draft.people[numbers[0]][DUTY] |= 1 << numbers[1];
                    break;
                case AT_STATEMENT:
                    draft.people[numbers[0]][AT] = numbers[1];
                    break;
                case PURSE_STATEMENT:
                    draft.people[numbers[0]][PURSE] = numbers[1];
                    break;
                default:
                    break;
            }
        }

        private void nextToken() {
            tokenStart = tokenEnd;
            while (tokenStart < size && bytes[tokenStart] == BLANK) {
                tokenStart++;
            }
            token = tokenStart < size ? tokenOf(bytes[tokenStart]) : END;
            tokenEnd = tokenStart;
            if (token == WORD || token == NUMBER) {
                while (tokenEnd < size && tokenOf(bytes[tokenEnd]) == token) {
                    tokenEnd++;
                }
            } else if (token != END) {
                tokenEnd++;
            }
        }

        private static int tokenOf(int letter) {
            if (letter >= 'a' && letter <= 'z') {
                return WORD;
            }
            if (letter >= '0' && letter <= '9') {
                return NUMBER;
            }
            return letter == ';' ? SIGN : UNKNOWN;
        }

        private int tokenNumber() {
            int v = 0;
            for (int i = tokenStart; i < tokenEnd; i++) {
                v = v * 10 + bytes[i] - '0';
            }
            return v;
        }

        private int statementOfWord() {
            for (int statement = 0; statement < STATEMENTS; statement++) {
                if (isWord(wordOf(statement))) {
                    return statement;
                }
            }
            return NONE;
        }

        private boolean isWord(String word) {
            if (word.length() != tokenEnd - tokenStart) {
                return false;
            }
            for (int i = 0; i < word.length(); i++) {
                if (word.charAt(i) != bytes[tokenStart + i]) {
                    return false;
                }
            }
            return true;
        }

        private static String wordOf(int statement) {
            switch (statement) {
                case FARE_STATEMENT: return "fare";
                case HOURS_STATEMENT: return "hours";
                case PAY_STATEMENT: return "pay";
                case BACK_STATEMENT: return "back";
                case PASS_STATEMENT: return "pass";
                case PERSON_STATEMENT: return "person";
                case DUTY_STATEMENT: return "duty";
                case AT_STATEMENT: return "at";
                default: return "purse";
            }
        }
    }
}
