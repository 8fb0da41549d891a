import java.util.function.Supplier;

/** Promises 43 to 48, deeds in truth, draws, what is kept: each sentence that names an edge has a test of its own. */
public final class TruthEdgesTest {
    private static final int MIN = Integer.MIN_VALUE;
    private static final int MAX = Integer.MAX_VALUE;
    private static final int WORK = 8;
    private static final int REST = 9;

    /** One of a KIND AT a VALLEY, with a PURSE and so TIRED; a PASS goes from 2 to 6 for 9. */
    private static SundayIsAPlace one(int kind, int at, int purse, int tired) {
        SundayIsAPlace x = Scene.bare();
        x.person(kind, 3, at);
        x.tell(0, 1, purse);
        x.tell(0, 2, tired);
        x.pass(2, 6, 9, 1);
        return x;
    }

    private static void facts(SundayIsAPlace x, int person, int at, int purse, int tired, int age) {
        Due.is("AT", x.personOf(person, 3), at);
        Due.is("PURSE", x.personOf(person, 5), purse);
        Due.is("TIRED", x.personOf(person, 6), tired);
        Due.is("AGE", x.personOf(person, 7), age);
    }

    /** The act is done: AT, PURSE, TIRED and AGE are so then, and it counts. */
    private static void does(SundayIsAPlace x, int act, int at, int purse, int tired, int age) {
        int ahead = x.status(5);
        Due.is("act " + act, x.act(0, act), at);
        facts(x, 0, at, purse, tired, age);
        Due.is("acts done in truth", x.status(5), ahead + 1);
    }

    private static void cant(Supplier<SundayIsAPlace> made, int act) {
        Twins.refuse(made, "act " + act, -5, x -> x.act(0, act));
    }

    // ---- 43

    private static void noSuchAct() {
        for (int act : new int[] {-1, 5, 6, 7, 10, 11, MIN, MAX}) {
            Twins.refuse(Scene::town, "act " + act, -2, x -> x.act(0, act));
        }
        for (int act : new int[] {0, 1, 2, WORK}) {
            SundayIsAPlace x = one(0, 2, 20, 0);
            Due.is("act " + act + " can be", x.act(0, act) >= 0 ? 1 : 0, 1);
        }
    }

    private static void badAheadOfStuck() {
        Supplier<SundayIsAPlace> made = () -> one(0, 0, 0, 20);
        for (int act : new int[] {-1, 5, 7, 10}) {
            Twins.refuse(made, "no such act of one who can none", -2, x -> x.act(0, act));
        }
        for (int act : new int[] {0, 4, WORK, REST}) {
            Twins.refuse(made, "an act of nobody", -2, x -> x.act(1, act));
        }
    }

    private static void stepRoundTheRing() {
        does(one(0, 6, 20, 0), 0, 0, 19, 1, 1);
        does(one(0, 0, 20, 0), 1, 6, 17, 1, 0);
        does(one(0, 5, 20, 0), 0, 6, 19, 1, 1);
        does(one(0, 1, 20, 0), 1, 0, 17, 1, 0);
        does(one(0, 2, 20, 0), 2, 6, 11, 1, 0);
    }

    private static void purseMustHaveIt() {
        does(one(0, 0, 1, 0), 0, 1, 0, 1, 1);
        cant(() -> one(0, 0, 0, 0), 0);
        does(one(0, 0, 3, 0), 1, 6, 0, 1, 0);
        cant(() -> one(0, 0, 2, 0), 1);
        does(one(0, 2, 9, 0), 2, 6, 0, 1, 0);
        cant(() -> one(0, 2, 8, 0), 2);
    }

    private static void purseByKind() {
        int[] price = {1, 0, 4, 0, 4, 2};
        for (int kind = 0; kind < 6; kind++) {
            int k = kind;
            int p = price[kind];
            does(one(kind, 0, p, 0), 0, 1, 0, 1, 1);
            if (p > 0) {
                cant(() -> one(k, 0, p - 1, 0), 0);
            }
        }
        does(one(4, 2, 0, 0), 2, 6, 0, 1, 0);
        does(one(5, 2, 18, 0), 2, 6, 0, 1, 0);
        cant(() -> one(5, 2, 17, 0), 2);
    }

    private static void noPassThere() {
        cant(() -> one(0, 0, 20, 0), 2);
        cant(() -> one(0, 6, 20, 0), 2);
        cant(() -> one(0, 2, 20, 0), 3);
        cant(() -> one(0, 2, 20, 0), 4);
        Supplier<SundayIsAPlace> none = () -> {
            SundayIsAPlace x = Scene.bare();
            x.person(0, 0, 0);
            return x;
        };
        cant(none, 2);
        Due.is("the last PASS", lastPass().act(0, 4), 5);
    }

    private static SundayIsAPlace lastPass() {
        SundayIsAPlace x = one(0, 2, 20, 0);
        x.pass(2, 4, 1, 1);
        x.pass(2, 5, 1, 1);
        return x;
    }

    private static void tiredTwentyAtMost() {
        does(one(0, 0, 20, 19), 0, 1, 19, 20, 1);
        does(one(0, 0, 20, 19), 1, 6, 17, 20, 0);
        does(one(0, 2, 20, 19), 2, 6, 11, 20, 0);
        does(one(0, 0, 20, 18), WORK, 0, 24, 20, 0);
        cant(() -> one(0, 0, 20, 20), 0);
        cant(() -> one(0, 0, 20, 20), 1);
        cant(() -> one(0, 2, 20, 20), 2);
        cant(() -> one(0, 0, 20, 19), WORK);
        cant(() -> one(0, 0, 20, 20), WORK);
    }

    private static void purseIs999AtMost() {
        does(one(0, 0, 995, 0), WORK, 0, 999, 2, 0);
        does(one(0, 0, 996, 0), WORK, 0, 999, 2, 0);
        does(one(0, 0, 999, 0), WORK, 0, 999, 2, 0);
        SundayIsAPlace x = one(0, 3, 979, 0);
        x.ask(3, 2, 20);
        does(x, WORK, 3, 999, 2, 0);
        does(x, WORK, 3, 999, 4, 0);
        does(x, 0, 4, 998, 5, 1);
        SundayIsAPlace y = one(0, 3, 0, 0);
        y.ask(3, 2, 0);
        does(y, WORK, 3, 0, 2, 0);
    }

    private static void workNotOnSunday() {
        cant(() -> one(0, 6, 20, 0), WORK);
        for (int v = 0; v < 6; v++) {
            does(one(0, v, 20, 0), WORK, v, 24, 2, 0);
        }
    }

    private static void restOnSundayAlone() {
        does(one(0, 6, 20, 5), REST, 6, 20, 0, 0);
        for (int v = 0; v < 6; v++) {
            int at = v;
            cant(() -> one(0, at, 20, 5), REST);
            cant(() -> one(2, at, 20, 5), REST);
        }
    }

    private static void restOfEachKind() {
        int[] tired = {20, 19, 1, 0};
        int[] half = {10, 9, 0, 0};
        for (int i = 0; i < tired.length; i++) {
            for (int kind = 0; kind < 6; kind++) {
                does(one(kind, 6, 0, tired[i]), REST, 6, 0, kind == 2 || kind == 4 ? half[i] : 0, 0);
            }
        }
    }

    private static void ageIs999AtMost() {
        SundayIsAPlace x = PlanEdgesTest.aged(998);
        Due.is("AGE", x.personOf(0, 7), 998);
        Due.is("FORWARD", x.act(0, 0), 6);
        Due.is("AGE", x.personOf(0, 7), 999);
        Due.is("FORWARD", x.act(0, 0), 0);
        Due.is("AGE", x.personOf(0, 7), 999);
        Due.is("all AGES", x.status(4), 999);
    }

    // ---- 44

    /** By SEED, the first DRAW below 6: with the top bit of what becomes of SEED not set, and set. */
    private static final int[][] SEED_OF_DRAW = {{9, 7}, {5, 3}, {1, 14}, {12, 10}, {8, 2}, {4, 11}};

    private static SundayIsAPlace seeded(int seed, int at) {
        SundayIsAPlace x = Scene.bare();
        x.person(0, 0, at);
        x.pass(3, 0, 1, 1);
        x.pass(3, 6, 2, 1);
        x.pass(3, 5, 3, 1);
        x.seed(seed);
        return x;
    }

    private static void drawn(int draw, int at, int... due) {
        for (int seed : SEED_OF_DRAW[draw]) {
            SundayIsAPlace x = seeded(seed, at);
            Due.is("acts of one week by SEED " + seed, x.weeks(1), due[0]);
            facts(x, 0, due[1], due[2], due[3], due[4]);
            Due.is("acts done in truth", x.status(5), due[0]);
            Due.is("nothing is refused", x.status(12) + x.status(15), 0);
        }
    }

    private static void drawsOfSteps() {
        drawn(0, 3, 1, 4, 19, 1, 1);
        drawn(1, 3, 1, 2, 17, 1, 0);
        drawn(2, 3, 1, 0, 19, 1, 0);
        drawn(3, 3, 1, 6, 18, 1, 0);
        drawn(4, 3, 1, 5, 17, 1, 0);
    }

    private static void drawOfFive() {
        for (int v = 0; v < 6; v++) {
            drawn(5, v, 1, v, 24, 2, 0);
        }
        drawn(5, 6, 1, 6, 20, 0, 0);
    }

    private static void whatCantBeIsNothing() {
        drawn(2, 0, 0, 0, 20, 0, 0);
        drawn(4, 6, 0, 6, 20, 0, 0);
        for (int draw = 0; draw < 6; draw++) {
            for (int seed : SEED_OF_DRAW[draw]) {
                SundayIsAPlace x = seeded(seed, 2);
                x.tell(0, 2, 20);
                Due.is("acts of one who is TIRED", x.weeks(1), 0);
                facts(x, 0, 2, 20, 20, 0);
                Due.is("STUCK", x.status(15), 0);
            }
        }
    }

    private static int next(int seed) {
        return (int) (((long) seed * 1103515245L + 12345L) & 0xFFFFFFFFL);
    }

    private static int drawBelowSix(int seed) {
        return (int) (((seed & 0xFFFFFFFFL) >> 16) % 6);
    }

    /** Does with y, act by act, what weeks does with x. */
    private static int byActs(SundayIsAPlace y, int weeks) {
        int count = 0;
        int seed = y.status(7);
        int people = y.status(0);
        for (int week = 0; week < weeks; week++) {
            for (int person = 0; person < people; person++) {
                seed = next(seed);
                int draw = drawBelowSix(seed);
                int five = y.personOf(person, 3) == 6 ? REST : WORK;
                count += y.act(person, draw < 5 ? draw : five) >= 0 ? 1 : 0;
            }
        }
        y.seed(seed);
        return count;
    }

    private static void same(Supplier<SundayIsAPlace> made, int weeks) {
        SundayIsAPlace x = made.get();
        SundayIsAPlace y = made.get();
        Due.is("acts of " + weeks + " weeks", x.weeks(weeks), byActs(y, weeks));
        for (int what : new int[] {0, 1, 2, 3, 4, 5, 7}) {
            Due.is("status " + what, x.status(what), y.status(what));
        }
        for (int person = 0; person < x.status(0); person++) {
            for (int what = 0; what < 8; what++) {
                Due.is("personOf " + person + " " + what, x.personOf(person, what), y.personOf(person, what));
            }
        }
        Due.is("STUCK", x.status(15), made.get().status(15));
    }

    private static void eachOfThePeopleInTurn() {
        for (int seed = 0; seed < 40; seed++) {
            int s = seed * 99991;
            Supplier<SundayIsAPlace> made = () -> {
                SundayIsAPlace x = Scene.fullTown();
                x.seed(s);
                return x;
            };
            same(made, 1);
            same(made, 2);
            same(made, 7);
        }
    }

    private static void sixtyWeeks() {
        same(() -> seeded(1, 3), 60);
        same(() -> seeded(-1, 6), 60);
        same(Scene::town, 60);
    }

    private static void weeksNumber() {
        Twins.number(Scene::town, "weeks, n", 1, 60, (x, v) -> x.weeks(v));
        Twins.number(Scene::bare, "weeks of nobody, n", 1, 60, (x, v) -> x.weeks(v));
    }

    private static void weeksOfNobody() {
        Twins.keep(Scene::bare, "weeks of nobody", 0, x -> x.weeks(60));
        Twins.keep(Scene::bare, "one week of nobody", 0, x -> x.weeks(1));
    }

    private static void oneDrawForEach() {
        SundayIsAPlace x = seeded(1, 3);
        x.weeks(1);
        Due.is("SEED behind one DRAW", x.status(7), 1103527590);
        x.weeks(1);
        Due.is("SEED behind two", x.status(7), next(1103527590));
        x.person(0, 0, 0);
        x.seed(1);
        x.weeks(1);
        Due.is("SEED behind two", x.status(7), next(1103527590));
        x.tell(0, 2, 20);
        x.tell(1, 2, 20);
        x.seed(1);
        x.weeks(1);
        Due.is("SEED behind two acts that can't be", x.status(7), next(1103527590));
    }

    private static void seedWraps() {
        int[] seeds = {3, -1, MIN, MAX, 0, 65536, -65536};
        int[] due = {-984409216, -1103502900, -2147471303, 1043980748, 12345, 1315778617, -1315753927};
        for (int i = 0; i < seeds.length; i++) {
            SundayIsAPlace x = seeded(seeds[i], 3);
            x.weeks(1);
            Due.is("SEED behind " + seeds[i], x.status(7), due[i]);
            Due.is("as it is told else", next(seeds[i]), due[i]);
        }
    }

    // ---- 45

    private static void seedTellsTheOneAhead() {
        SundayIsAPlace x = Scene.bare();
        int was = 1;
        for (int seed : new int[] {0, -1, MIN, MAX, -2, -6, 1}) {
            Due.is("seed", x.seed(seed), was);
            Due.is("SEED", x.status(7), seed);
            was = seed;
        }
        for (int what = 12; what <= 16; what++) {
            Due.is("no refusal " + what, x.status(what), 0);
        }
    }

    // ---- 46 and 47

    private static void backOfNothing() {
        Twins.refuse(Scene::bare, "back of nothing", -5, x -> x.back());
        SundayIsAPlace x = Scene.bare();
        x.person(0, 0, 0);
        Due.is("back of nothing", x.back(), -5);
        Due.is("nothing is changed", x.status(0), 1);
        Due.is("image", x.image(), 1);
        Due.is("back", x.back(), 1);
    }

    private static void imageChangesNothing() {
        Supplier<SundayIsAPlace> made = () -> {
            SundayIsAPlace x = Scene.town();
            x.image();
            return x;
        };
        Twins.keep(made, "image again", 1, x -> x.image());
        Twins.keep(made, "back at once", 1, x -> x.back());
    }

    private static void imageOfANewObject() {
        SundayIsAPlace x = Scene.bare();
        x.image();
        for (int person = 0; person < 6; person++) {
            x.person(person, 1, 1);
            x.show(person, person);
        }
        for (int pass = 0; pass < 3; pass++) {
            x.pass(0, 1, 2, 3);
        }
        x.weeks(9);
        Due.is("back", x.back(), 1);
        int[] due = {0, 0, 2, 0, 0, 0, 0, 1, 0};
        for (int what = 0; what < due.length; what++) {
            Due.is("status " + what, x.status(what), due[what]);
        }
        Due.is("room for a PASS", x.pass(0, 1, 2, 3), 0);
        Due.is("room for one", x.person(0, 0, 0), 0);
    }

    /** What the sentence names becomes another and is again as it was kept. */
    private static void isAgain(Supplier<SundayIsAPlace> made, Twins.Asked change, Twins.Asked told) {
        SundayIsAPlace x = made.get();
        long due = told.of(x, 0);
        x.image();
        change.of(x, 0);
        Due.is("it is another", told.of(x, 0) != due ? 1 : 0, 1);
        Due.is("back", x.back(), 1);
        Due.is("it is again", told.of(x, 0), due);
        change.of(x, 0);
        Due.is("back", x.back(), 1);
        Due.is("it is again, again", told.of(x, 0), due);
    }

    private static void again(String words, Twins.Asked change, Twins.Asked told) {
        Due.sentence("47: All is again as it was kept: " + words, () -> isAgain(Scene::town, change, told));
    }

    private static void allIsAgain() {
        again("FARE", (x, v) -> x.ask(6, 0, 9), (x, v) -> x.valleyOf(6, 0));
        again("HOURS", (x, v) -> x.ask(0, 1, 12), (x, v) -> x.valleyOf(0, 1));
        again("PAY", (x, v) -> x.ask(6, 2, 20), (x, v) -> x.valleyOf(6, 2));
        again("BACK", (x, v) -> x.ask(0, 3, 9), (x, v) -> x.status(2));
        again("PASSES", (x, v) -> x.pass(1, 2, 3, 4), (x, v) -> x.status(1));
        again("PEOPLE", (x, v) -> x.person(1, 2, 3), (x, v) -> x.status(0));
        again("HOME", (x, v) -> x.tell(1, 3, 6), (x, v) -> x.personOf(1, 2));
        again("AT", (x, v) -> x.tell(1, 0, 6), (x, v) -> x.personOf(1, 3));
        again("DUTY", (x, v) -> x.duty(1, 6, true), (x, v) -> x.personOf(1, 4));
        again("no DUTY", (x, v) -> x.duty(1, 1, false), (x, v) -> x.personOf(1, 4));
        again("PURSE", (x, v) -> x.tell(1, 1, 999), (x, v) -> x.personOf(1, 5));
        again("TIRED", (x, v) -> x.tell(1, 2, 20), (x, v) -> x.personOf(1, 6));
        again("AGE", (x, v) -> x.act(1, 0), (x, v) -> x.personOf(1, 7));
        again("acts done in truth", (x, v) -> x.act(0, WORK), (x, v) -> x.status(5));
        again("SEED", (x, v) -> x.seed(MAX), (x, v) -> x.status(7));
        again("SEED, by draws", (x, v) -> x.weeks(1), (x, v) -> x.status(7));
        again("what a LAND came to", (x, v) -> x.land(), (x, v) -> x.status(2));
    }

    private static void lastPassAndPersonAgain() {
        SundayIsAPlace x = Scene.fullTown();
        x.image();
        x.tell(5, 1, 3);
        x.duty(5, 6, true);
        x.ask(6, 0, 9);
        x.back();
        int[] one = {4, 5, 4, 4, 0, 20, 0, 0};
        for (int what = 0; what < one.length; what++) {
            Due.is("personOf 5 " + what, x.personOf(5, what), one[what]);
        }
        int[] pass = {6, 2, 9, 12};
        for (int what = 0; what < pass.length; what++) {
            Due.is("passOf 2 " + what, x.passOf(2, what), pass[what]);
        }
        Due.is("FARE", x.valleyOf(6, 0), 1);
    }

    private static void imageAnew() {
        SundayIsAPlace x = Scene.bare();
        x.seed(5);
        x.image();
        x.seed(6);
        x.image();
        x.seed(7);
        for (int times = 0; times < 2; times++) {
            Due.is("back", x.back(), 1);
            Due.is("what was kept last", x.status(7), 6);
            x.seed(8);
        }
    }

    private static void tapeIsNotKept() {
        SundayIsAPlace x = Scene.town();
        x.image();
        Due.is("THE TAPE stays by image", x.status(6), 6);
        x.feed(' ');
        Due.is("back", x.back(), 1);
        Due.is("THE TAPE stays by back", x.status(6), 7);
        Due.is("land", x.land(), 1);
        x.back();
        Due.is("THE TAPE stays empty", x.status(6), 0);
    }

    private static void shelvesAreNotKept() {
        SundayIsAPlace x = Scene.town();
        x.image();
        x.set(Scene.BYTES, 0, 99);
        x.row(Scene.SHORTS, 3, 1);
        x.show(Scene.LONGS, -1);
        x.row(Scene.NOTHING, 4, 2);
        x.show(Scene.SOMEONE, 0);
        Due.is("back", x.back(), 1);
        Due.is("an element", x.element(Scene.BYTES, 0), 99);
        Due.is("another ROW", x.holds(Scene.SHORTS), 3);
        Due.is("NOTHING", x.holds(Scene.LONGS), -1);
        Due.is("a new ROW", x.holds(Scene.NOTHING), 4);
        Due.is("one of the PEOPLE", x.holds(Scene.SOMEONE), 10);
        Due.is("SHELVES that hold something", x.status(8), 7);
    }

    private static void refusalsAreNotKept() {
        SundayIsAPlace x = Scene.town();
        x.image();
        x.row(8, 0, 0);
        x.set(Scene.SOMEONE, 0, 0);
        x.set(Scene.NOTHING, 0, 0);
        x.act(0, REST);
        for (int pass = 0; pass < 3; pass++) {
            x.pass(0, 1, 0, 1);
        }
        x.back();
        for (int what = 12; what <= 16; what++) {
            Due.is("REFUSALS " + what, x.status(what), 1);
        }
    }

    private static void shelvesWithPeople() {
        SundayIsAPlace x = Scene.bare();
        x.person(1, 3, 4);
        x.image();
        x.person(2, 3, 4);
        x.person(3, 3, 4);
        x.show(0, 0);
        x.show(1, 1);
        x.show(7, 2);
        x.row(2, 2, 3);
        x.tell(0, 1, 999);
        Due.is("back", x.back(), 1);
        Due.is("one of the same number", x.holds(0), 10);
        Due.is("he is as he was kept", x.personOf(0, 5), 20);
        Due.is("NOTHING", x.holds(1), -1);
        Due.is("NOTHING", x.holds(7), -1);
        Due.is("a ROW", x.holds(2), 2);
        Due.is("SHELVES that hold something", x.status(8), 2);
        Due.is("it says NOTHING", x.says(1, 0), -4);
        Due.is("one anew", x.person(5, 9, 0), 1);
        Due.is("NOTHING still", x.holds(1), -1);
        Due.is("one of the same number", x.says(0, 1), 0);
    }

    // ---- 48

    private static void statusOfAnother() {
        for (int what : new int[] {-1, 9, 10, 11, 17, 18, MIN, MAX}) {
            Twins.keep(Scene::town, "status " + what, -1, x -> x.status(what));
        }
    }

    private static void statusOfTheTown() {
        int[] due = {2, 1, 2, 44, 0, 1, 6, -5, 7, -1, -1, -1, 0, 0, 0, 0, 0};
        for (int what = 0; what < due.length; what++) {
            int w = what;
            Twins.keep(Scene::town, "status " + what, due[what], x -> x.status(w));
        }
    }

    private static void statusOfAllTogether() {
        SundayIsAPlace x = Scene.fullTown();
        for (int person = 0; person < 6; person++) {
            x.tell(person, 1, 999);
            Due.is("act", x.act(person, 0) >= 0 ? 1 : 0, 1);
            x.tell(person, 1, 999);
        }
        Due.is("all PURSES", x.status(3), 5994);
        Due.is("all AGES", x.status(4), 6);
    }

    private static void shelvesThatHoldSomething() {
        SundayIsAPlace x = Scene.bare();
        x.person(0, 0, 0);
        for (int s = 0; s < 8; s++) {
            Due.is("SHELVES", x.status(8), s);
            Due.is("row or show", s % 2 == 0 ? x.row(s, s % 5, 0) : x.show(s, 0), 1);
        }
        Due.is("all SHELVES", x.status(8), 8);
    }

    private static void eachRefusalApart() {
        int[] due = new int[5];
        SundayIsAPlace x = Scene.town();
        for (int times = 0; times < 2; times++) {
            for (int refusal = 0; refusal < 5; refusal++) {
                Due.is("refused", refused(x, refusal), -2 - refusal);
                due[refusal]++;
                for (int i = 0; i < 5; i++) {
                    Due.is("REFUSALS " + (12 + i), x.status(12 + i), due[i]);
                }
            }
        }
    }

    private static int refused(SundayIsAPlace x, int refusal) {
        switch (refusal) {
            case 0: return x.wipe() < 0 ? 0 : x.weeks(0);
            case 1: return x.set(Scene.SOMEONE, 0, 0);
            case 2: return x.set(Scene.NOTHING, 0, 0);
            case 3: return x.act(0, REST);
            default:
                while (x.status(1) < 3) {
                    x.pass(0, 1, 0, 1);
                }
                return x.pass(0, 1, 0, 1);
        }
    }

    private static void deeds() {
        Due.sentence("43: BAD: also no such act", TruthEdgesTest::noSuchAct);
        Due.sentence("43: BAD", () -> {
            Twins.number(Scene::town, "act, person", 0, 1, (x, v) -> x.act(v, 0));
            Twins.refuse(Scene::bare, "act of nobody", -2, x -> x.act(0, 0));
        });
        Due.sentence("43: BAD; STUCK: in this order", TruthEdgesTest::badAheadOfStuck);
        Due.sentence("43: behind 6 comes 0", TruthEdgesTest::stepRoundTheRing);
        Due.sentence("43: (PURSE must have it)", TruthEdgesTest::purseMustHaveIt);
        Due.sentence("43: A STEP costs its PRICE, by KIND", TruthEdgesTest::purseByKind);
        Due.sentence("43: a PASS that begins there", TruthEdgesTest::noPassThere);
        Due.sentence("43: No act may make TIRED more than 20", TruthEdgesTest::tiredTwentyAtMost);
        Due.sentence("43: PURSE is PAY of the VALLEY more (999 at most)", TruthEdgesTest::purseIs999AtMost);
        Due.sentence("43: WORK not on Sunday", TruthEdgesTest::workNotOnSunday);
        Due.sentence("43: REST on Sunday alone", TruthEdgesTest::restOnSundayAlone);
        Due.sentence("43: TIRED is 0; of RESTLESS (SMUGGLER) half of it (cut)", TruthEdgesTest::restOfEachKind);
        Due.sentence("43: FORWARD AGE is 1 more (999 at most)", TruthEdgesTest::ageIs999AtMost);
    }

    private static void draws() {
        Due.sentence("44: 0 to 4 that STEP; its upper 16 bits, no sign", TruthEdgesTest::drawsOfSteps);
        Due.sentence("44: 5: REST, if one is on Sunday, else WORK", TruthEdgesTest::drawOfFive);
        Due.sentence("44: if it can't be, nothing", TruthEdgesTest::whatCantBeIsNothing);
        Due.sentence("44: in each, each of the PEOPLE in turn", TruthEdgesTest::eachOfThePeopleInTurn);
        Due.sentence("44: WEEKS, sixty", TruthEdgesTest::sixtyWeeks);
        Due.sentence("44: (n 1 to 60)", TruthEdgesTest::weeksNumber);
        Due.sentence("44: WEEKS of nobody", TruthEdgesTest::weeksOfNobody);
        Due.sentence("44: a DRAW: SEED becomes another", TruthEdgesTest::oneDrawForEach);
        Due.sentence("44: (an int, wrapping)", TruthEdgesTest::seedWraps);
        Due.sentence("45: SEED (1 at first) becomes v: the one ahead", TruthEdgesTest::seedTellsTheOneAhead);
    }

    private static void kept() {
        Due.sentence("47: STUCK: nothing was", TruthEdgesTest::backOfNothing);
        Due.sentence("46: 1 (nothing is changed)", TruthEdgesTest::imageChangesNothing);
        Due.sentence("46: All is kept, of a new object", TruthEdgesTest::imageOfANewObject);
        Due.sentence("46: All is kept, the last of each", TruthEdgesTest::lastPassAndPersonAgain);
        Due.sentence("46: All is kept, anew", TruthEdgesTest::imageAnew);
        Due.sentence("46: but THE TAPE", TruthEdgesTest::tapeIsNotKept);
        Due.sentence("46: but SHELVES", TruthEdgesTest::shelvesAreNotKept);
        Due.sentence("46: but REFUSALS", TruthEdgesTest::refusalsAreNotKept);
        Due.sentence("47: SHELVES with PEOPLE hold those, or NOTHING", TruthEdgesTest::shelvesWithPeople);
    }

    private static void status() {
        Due.sentence("48: NONE another what", TruthEdgesTest::statusOfAnother);
        Due.sentence("48: 0 to 8, 12 to 16", TruthEdgesTest::statusOfTheTown);
        Due.sentence("48: all PURSES, all AGES together", TruthEdgesTest::statusOfAllTogether);
        Due.sentence("48: SHELVES that hold something", TruthEdgesTest::shelvesThatHoldSomething);
        Due.sentence("48: REFUSALS -2 to -6", TruthEdgesTest::eachRefusalApart);
    }

    public static void main(String[] args) {
        deeds();
        draws();
        kept();
        allIsAgain();
        status();
        Due.end("TruthEdgesTest");
    }
}
