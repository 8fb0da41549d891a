import java.util.Arrays;
import java.util.function.Supplier;

/** Promises 39 to 42, told PLANS and LONGEST: each sentence that names an edge has a test of its own. */
public final class PlanEdgesTest {
    private static final int AT = 0;
    private static final int PURSE = 1;
    private static final int TIRED = 2;
    private static final int AGE = 3;
    private static final int LAZY = 4;

    /** Asks judge, behind or done by SHELF, n and person. */
    private interface Asked {
        long of(SundayIsAPlace x, int s, int n, int person);
    }

    /** One of a KIND, AT a VALLEY, with a PURSE and so TIRED, and a PLAN for him in SHELF 0. */
    private static SundayIsAPlace planned(int kind, int at, int purse, int tired, long... acts) {
        SundayIsAPlace x = Scene.bare();
        x.person(kind, 3, at);
        x.tell(0, 1, purse);
        x.tell(0, 2, tired);
        x.pass(2, 6, 9, 1);
        Scene.fill(x, 0, 3, acts);
        return x;
    }

    /** A PERSON AT 0 as he is at first, and that PLAN for him. */
    private static SundayIsAPlace fresh(long... acts) {
        return planned(0, 0, 20, 0, acts);
    }

    /** The PLAN is WRONG at that place: judge tells it, behind and done are STUCK, and nothing is changed. */
    private static void wrong(int place, Supplier<SundayIsAPlace> made, int n) {
        Twins.keep(made, "judge " + n, place, x -> x.judge(0, n, 0));
        for (int what = 0; what < 5; what++) {
            int w = what;
            Twins.refuse(made, "behind " + n + ", what " + what, -5, x -> x.behind(0, n, 0, w));
        }
        Twins.refuse(made, "done " + n, -5, x -> x.done(0, n, 0));
    }

    private static void wrong(int place, long... acts) {
        wrong(place, () -> fresh(acts), acts.length);
    }

    /** The PLAN is not WRONG: behind it AT, PURSE, TIRED, AGE, LAZY are these, and done makes them so. */
    private static void right(Supplier<SundayIsAPlace> made, int n, int... due) {
        Twins.keep(made, "judge " + n, -1, x -> x.judge(0, n, 0));
        for (int what = 0; what < 5; what++) {
            int w = what;
            Twins.keep(made, "behind " + n + ", what " + what, due[what], x -> x.behind(0, n, 0, w));
        }
        SundayIsAPlace x = made.get();
        int actsAhead = x.status(5);
        int ageAhead = x.personOf(0, 7);
        Due.is("done", x.done(0, n, 0), due[AT]);
        Due.is("AT", x.personOf(0, 3), due[AT]);
        Due.is("PURSE", x.personOf(0, 5), due[PURSE]);
        Due.is("TIRED", x.personOf(0, 6), due[TIRED]);
        Due.is("AGE", x.personOf(0, 7) - ageAhead, due[AGE] - ageAhead);
        Due.is("acts done in truth", x.status(5) - actsAhead, n);
        Due.is("nothing is refused", x.status(12) + x.status(15), 0);
    }

    // ---- what can be, and what can't

    private static void planOfNoActs() {
        right(() -> fresh(), 0, 0, 20, 0, 0, -1);
        right(() -> fresh(7, 7), 0, 0, 20, 0, 0, -1);
        right(() -> planned(4, 6, 999, 20), 0, 6, 999, 20, 0, -1);
        Twins.keep(Scene::town, "done nothing", 5, x -> x.done(Scene.NO_ELEMENTS, 0, 1));
    }

    private static void noSuchAct() {
        long[] no = {-1, -2, 5, 6, 7, 10, 11, Long.MIN_VALUE, Long.MAX_VALUE, 1L << 32, (1L << 32) + 8, (1L << 32) + 9,
            256, -1L << 32};
        for (long act : no) {
            wrong(0, act);
            wrong(2, 8, 0, act, 8);
        }
    }

    private static void actsOfEachSort() {
        Due.is("bytes", sorted(0, 264).behind(0, 1, 0, PURSE), 24);
        Due.is("shorts", sorted(1, 65536 + 8).behind(0, 1, 0, PURSE), 24);
        Due.is("ints", sorted(2, (1L << 32) + 8).behind(0, 1, 0, PURSE), 24);
        Due.is("longs", sorted(3, (1L << 32) + 8).behind(0, 1, 0, PURSE), -5);
        Due.is("booleans", sorted(4, 8).behind(0, 1, 0, AT), 6);
        Due.is("booleans", sorted(4, 0).behind(0, 1, 0, AT), 1);
    }

    private static SundayIsAPlace sorted(int sort, long act) {
        SundayIsAPlace x = fresh();
        Scene.fill(x, 0, sort, act);
        return x;
    }

    private static void theFirstThatCantBe() {
        wrong(0, 9, 9);
        wrong(1, 8, 9, 9);
        wrong(1, 0, 9);
        wrong(2, 0, 0, 9, 2, 3);
        right(() -> fresh(8, 9, 8), 1, 0, 24, 2, 0, -1);
    }

    private static void asThingsThenStand() {
        right(() -> fresh(1, 9, 0), 3, 0, 16, 1, 1, -1);
        right(() -> fresh(0, 0, 2, 9), 4, 6, 9, 0, 2, -1);
        wrong(0, 2, 0, 0);
        wrong(2, 0, 0, 3);
        wrong(1, 1, 8);
        wrong(3, 0, 0, 2, 8);
    }

    private static void purseMustHaveIt() {
        right(() -> planned(0, 0, 1, 0, 0), 1, 1, 0, 1, 1, -1);
        wrong(0, () -> planned(0, 0, 0, 0, 0), 1);
        right(() -> planned(0, 0, 3, 0, 1), 1, 6, 0, 1, 0, -1);
        wrong(0, () -> planned(0, 0, 2, 0, 1), 1);
        right(() -> planned(0, 2, 9, 0, 2), 1, 6, 0, 1, 0, -1);
        wrong(0, () -> planned(0, 2, 8, 0, 2), 1);
        right(() -> planned(4, 2, 0, 0, 2), 1, 6, 0, 1, 0, -1);
        wrong(2, () -> planned(0, 0, 2, 0, 0, 0, 0), 3);
        right(() -> planned(0, 0, 2, 0, 0, 0, 8, 0), 4, 3, 3, 5, 3, -1);
    }

    private static void tiredTwentyAtMost() {
        right(() -> planned(0, 0, 20, 19, 0), 1, 1, 19, 20, 1, 0);
        wrong(0, () -> planned(0, 0, 20, 20, 0), 1);
        right(() -> planned(0, 0, 20, 18, 8), 1, 0, 24, 20, 0, 0);
        wrong(0, () -> planned(0, 0, 20, 19, 8), 1);
        wrong(0, () -> planned(0, 0, 20, 20, 8), 1);
        wrong(0, () -> planned(0, 0, 20, 20, 1), 1);
        wrong(0, () -> planned(4, 2, 20, 20, 2), 1);
        right(() -> planned(0, 6, 20, 20, 9), 1, 6, 20, 0, 0, -1);
    }

    private static void purseIs999AtMost() {
        right(() -> planned(0, 0, 995, 0, 8), 1, 0, 999, 2, 0, -1);
        right(() -> planned(0, 0, 996, 0, 8), 1, 0, 999, 2, 0, -1);
        right(() -> planned(0, 0, 999, 0, 8), 1, 0, 999, 2, 0, -1);
        right(() -> planned(0, 0, 998, 0, 8, 0), 2, 1, 998, 3, 1, -1);
    }

    private static void workNotOnSunday() {
        wrong(0, () -> planned(0, 6, 20, 0, 8), 1);
        for (int v = 0; v < 6; v++) {
            int at = v;
            right(() -> planned(0, at, 20, 0, 8), 1, at, 24, 2, 0, -1);
            wrong(0, () -> planned(0, at, 20, 5, 9), 1);
        }
    }

    private static void restOfEachKind() {
        int[][] due = {{0, 0, 0}, {0, 0, 0}, {10, 9, 0}, {0, 0, 0}, {10, 9, 0}, {0, 0, 0}};
        int[] tired = {20, 19, 1};
        for (int kind = 0; kind < 6; kind++) {
            for (int i = 0; i < 3; i++) {
                int k = kind;
                int t = tired[i];
                right(() -> planned(k, 6, 0, t, 9), 1, 6, 0, due[kind][i], 0, -1);
            }
        }
        right(() -> planned(0, 6, 0, 0, 9), 1, 6, 0, 0, 0, -1);
        right(() -> planned(2, 6, 0, 0, 9), 1, 6, 0, 0, 0, -1);
    }

    private static void planOfForty() {
        long[] rests = new long[40];
        Arrays.fill(rests, 9);
        right(() -> planned(0, 6, 20, 20, rests), 40, 6, 20, 0, 0, -1);
        long[] last = rests.clone();
        last[39] = 8;
        wrong(39, () -> planned(0, 6, 20, 20, last), 40);
        right(() -> planned(0, 6, 20, 20, last), 39, 6, 20, 0, 0, -1);
    }

    // ---- LAZY

    private static void lazyFromFifteen() {
        right(() -> planned(0, 0, 20, 12, 8), 1, 0, 24, 14, 0, -1);
        right(() -> planned(0, 0, 20, 13, 8), 1, 0, 24, 15, 0, 0);
        right(() -> planned(0, 0, 20, 13, 0), 1, 1, 19, 14, 1, -1);
        right(() -> planned(0, 0, 20, 14, 0), 1, 1, 19, 15, 1, 0);
    }

    private static void lazyIsTheFirst() {
        right(() -> planned(0, 0, 20, 11, 8, 8, 8), 3, 0, 32, 17, 0, 1);
        right(() -> planned(0, 6, 20, 20, 9, 0, 8), 3, 0, 23, 3, 1, -1);
        right(() -> planned(0, 5, 20, 14, 0, 9, 0), 3, 0, 18, 1, 2, 0);
        right(() -> planned(2, 6, 99, 20, 9, 1, 8, 8), 4, 5, 101, 15, 0, 3);
    }

    private static void lazyIsNone() {
        right(() -> planned(0, 0, 20, 20), 0, 0, 20, 20, 0, -1);
        right(() -> planned(0, 6, 20, 20, 9), 1, 6, 20, 0, 0, -1);
        Twins.keep(Scene::town, "NONE isn't refused", -1, x -> x.behind(Scene.NO_ELEMENTS, 0, 0, LAZY));
        SundayIsAPlace x = planned(0, 0, 20, 11, 8, 8);
        Due.is("LAZY", x.behind(0, 2, 0, LAZY), 1);
        Due.is("LAZY no more", x.behind(0, 1, 0, LAZY), -1);
        Due.is("LAZY no more", x.behind(0, 0, 0, LAZY), -1);
    }

    // ---- AGE

    /** By PLANS on which one goes round by Sunday, so that 512 calls are enough. */
    static SundayIsAPlace aged(int age) {
        SundayIsAPlace x = Scene.bare();
        x.person(4, 0, 5);
        x.pass(6, 5, 9, 9);
        x.ask(5, 0, 0);
        long[] plan = new long[39];
        for (int i = 0; i < plan.length; i++) {
            plan[i] = new int[] {0, 9, 2}[i % 3];
        }
        Scene.fill(x, 0, 0, plan);
        for (int left = age; left > 0; left -= 13) {
            x.done(0, 3 * Math.min(13, left), 0);
        }
        return x;
    }

    private static void ageIs999AtMost() {
        int[] ages = {997, 998, 999};
        int[] due = {998, 999, 999};
        for (int i = 0; i < ages.length; i++) {
            SundayIsAPlace x = aged(ages[i]);
            Due.is("AGE", x.personOf(0, 7), ages[i]);
            Due.is("AGE behind a PLAN", x.behind(0, 3, 0, AGE), due[i]);
            Due.is("AGE behind a longer PLAN", x.behind(0, 39, 0, AGE), 999);
            Due.is("FORWARD can be", x.judge(0, 39, 0), -1);
            Due.is("done", x.done(0, 3, 0), 5);
            Due.is("AGE", x.personOf(0, 7), due[i]);
            Due.is("all AGES", x.status(4), due[i]);
        }
    }

    private static void forwardAloneMakesOlder() {
        right(() -> fresh(1), 1, 6, 17, 1, 0, -1);
        right(() -> fresh(0), 1, 1, 19, 1, 1, -1);
        right(() -> fresh(8), 1, 0, 24, 2, 0, -1);
        right(() -> planned(0, 2, 20, 0, 2), 1, 6, 11, 1, 0, -1);
        right(() -> planned(0, 6, 20, 1, 9), 1, 6, 20, 0, 0, -1);
        right(() -> planned(0, 6, 20, 0, 0), 1, 0, 19, 1, 1, -1);
    }

    // ---- in truth

    private static void doneAddsToActs() {
        SundayIsAPlace x = fresh(8, 0, 1);
        x.act(0, 8);
        for (int times = 1; times <= 3; times++) {
            Due.is("done", x.done(0, 3, 0), 0);
            Due.is("acts done in truth", x.status(5), 1 + 3 * times);
        }
        Due.is("done of no acts", x.done(0, 0, 0), 0);
        Due.is("acts done in truth", x.status(5), 10);
    }

    private static void doneOfOneAlone() {
        SundayIsAPlace x = Scene.town();
        Scene.fill(x, Scene.BYTES, 0, 8);
        Due.is("done", x.done(Scene.BYTES, 1, 1), 5);
        Due.is("PURSE", x.personOf(1, 5), 24);
        Due.is("PURSE of another", x.personOf(0, 5), Scene.town().personOf(0, 5));
        Due.is("TIRED of another", x.personOf(0, 6), Scene.town().personOf(0, 6));
    }

    // ---- refusals

    private static void refused(String call, Asked asked) {
        Due.sentence(call + ": BAD SHELF", () ->
            Twins.number(Scene::eightRows, call + ", s", 0, 7, (x, v) -> asked.of(x, v, 1, 0)));
        Due.sentence(call + ": BAD n (0 to 40)", () ->
            Twins.number(Scene::town, call + ", n", 0, 40, (x, v) -> asked.of(x, Scene.INTS, v, 0)));
        Due.sentence(call + ": BAD person", () -> {
            Twins.number(Scene::town, call + ", person", 0, 1, (x, v) -> asked.of(x, Scene.NO_ELEMENTS, 0, v));
            Twins.refuse(Scene::bare, call + " of nobody", -2, x -> asked.of(x, 0, 0, 0));
        });
        Due.sentence(call + ": BAD: fewer elements", () -> {
            Twins.number(Scene::town, call + ", n of three", 0, 3, (x, v) -> asked.of(x, Scene.BYTES, v, 0));
            Twins.number(Scene::town, call + ", n of none", 0, 0, (x, v) -> asked.of(x, Scene.NO_ELEMENTS, v, 0));
        });
        Due.sentence(call + ": BAD; OTHER: in this order", () -> badAhead(Scene.SOMEONE, call + " by one", asked));
        Due.sentence(call + ": BAD; NOTHING: in this order", () ->
            badAhead(Scene.NOTHING, call + " by NOTHING", asked));
        Due.sentence(call + ": BAD; WRONG: in this order", () ->
            badAhead(Scene.LONGS, call + " by what is WRONG", asked));
        Due.sentence(call + ": OTHER; NOTHING; BAD: fewer elements: in this order", () -> {
            for (int n : new int[] {0, 1, 40}) {
                Twins.refuse(Scene::town, call + " by one", -3, x -> asked.of(x, Scene.SOMEONE, n, 0));
                Twins.refuse(Scene::town, call + " by NOTHING", -4, x -> asked.of(x, Scene.NOTHING, n, 0));
            }
        });
        Due.sentence(call + ": BAD: fewer elements; WRONG: in this order", () -> {
            Twins.refuse(Scene::town, call + ", four of three", -2, x -> asked.of(x, Scene.LONGS, 4, 0));
            Twins.refuse(Scene::town, call + ", forty of three", -2, x -> asked.of(x, Scene.LONGS, 40, 0));
        });
    }

    private static void badAhead(int s, String call, Asked asked) {
        Twins.refuse(Scene::town, call + ", 41", -2, x -> asked.of(x, s, 41, 0));
        Twins.refuse(Scene::town, call + ", n -1", -2, x -> asked.of(x, s, -1, 0));
        Twins.refuse(Scene::town, call + ", no person", -2, x -> asked.of(x, s, 1, 2));
        Twins.refuse(Scene::town, call + ", no person", -2, x -> asked.of(x, s, 1, -1));
    }

    private static void behindsWhat() {
        Twins.number(Scene::eightRows, "behind, what", 0, 4, (x, v) -> x.behind(0, 1, 0, v));
        for (int s : new int[] {Scene.SOMEONE, Scene.NOTHING, Scene.LONGS}) {
            Twins.refuse(Scene::town, "behind, what 5, SHELF " + s, -2, x -> x.behind(s, 1, 0, 5));
            Twins.refuse(Scene::town, "behind, what -1, SHELF " + s, -2, x -> x.behind(s, 1, 0, -1));
        }
    }

    // ---- LONGEST

    private static void longest(int at, int tired, int due) {
        Supplier<SundayIsAPlace> made = () -> planned(0, at, 999, tired);
        Twins.keep(made, "LONGEST", due, x -> x.longest(0));
        SundayIsAPlace x = made.get();
        for (int i = 0; i < due; i++) {
            Due.is("WORK", x.act(0, 8), at);
        }
        Due.is("WORK no more", x.act(0, 8), -5);
    }

    private static void longestByTired() {
        int[] tired = {0, 1, 2, 17, 18, 19, 20};
        int[] due = {10, 9, 9, 1, 1, 0, 0};
        for (int i = 0; i < tired.length; i++) {
            longest(0, tired[i], due[i]);
            longest(5, tired[i], due[i]);
        }
    }

    private static void longestOnSunday() {
        longest(6, 0, 0);
        longest(6, 20, 0);
        SundayIsAPlace x = planned(0, 6, 0, 0);
        x.ask(6, 2, 20);
        Due.is("LONGEST on Sunday", x.longest(0), 0);
    }

    private static void longestForNoPay() {
        SundayIsAPlace x = planned(0, 0, 999, 0);
        x.ask(0, 2, 0);
        Due.is("LONGEST for no PAY, PURSE full", x.longest(0), 10);
    }

    private static void plans() {
        Due.sentence("39: a PLAN of no acts", PlanEdgesTest::planOfNoActs);
        Due.sentence("39: a ROW of acts (0 to 4, 8, 9)", PlanEdgesTest::noSuchAct);
        Due.sentence("39: an element as its SORT keeps it", PlanEdgesTest::actsOfEachSort);
        Due.sentence("39: WRONG: the first that can't be", PlanEdgesTest::theFirstThatCantBe);
        Due.sentence("39: as things then stand", PlanEdgesTest::asThingsThenStand);
        Due.sentence("39: PURSE must have it", PlanEdgesTest::purseMustHaveIt);
        Due.sentence("39: No act may make TIRED more than 20", PlanEdgesTest::tiredTwentyAtMost);
        Due.sentence("40: PURSE is PAY more (999 at most)", PlanEdgesTest::purseIs999AtMost);
        Due.sentence("39: WORK not on Sunday; REST on Sunday alone", PlanEdgesTest::workNotOnSunday);
        Due.sentence("40: TIRED is 0; of RESTLESS (SMUGGLER) half of it (cut)", PlanEdgesTest::restOfEachKind);
        Due.sentence("39: the first n elements (0 to 40), forty", PlanEdgesTest::planOfForty);
        Due.sentence("40: TIRED is 15 or more", PlanEdgesTest::lazyFromFifteen);
        Due.sentence("40: LAZY: the first act", PlanEdgesTest::lazyIsTheFirst);
        Due.sentence("40: LAZY: NONE (NONE isn't refused)", PlanEdgesTest::lazyIsNone);
        Due.sentence("40: AGE is 1 more (999 at most)", PlanEdgesTest::ageIs999AtMost);
        Due.sentence("40: FORWARD AGE is 1 more", PlanEdgesTest::forwardAloneMakesOlder);
        Due.sentence("41: It comes to pass in truth (acts done)", PlanEdgesTest::doneAddsToActs);
        Due.sentence("41: of one", PlanEdgesTest::doneOfOneAlone);
    }

    private static void refusals() {
        refused("39: judge", (x, s, n, person) -> x.judge(s, n, person));
        refused("40: behind", (x, s, n, person) -> x.behind(s, n, person, AT));
        refused("40: behind, LAZY", (x, s, n, person) -> x.behind(s, n, person, LAZY));
        refused("41: done", (x, s, n, person) -> x.done(s, n, person));
        Due.sentence("40: BAD, also what", PlanEdgesTest::behindsWhat);
    }

    private static void works() {
        Due.sentence("42: how often on end, by TIRED", PlanEdgesTest::longestByTired);
        Due.sentence("42: not on Sunday", PlanEdgesTest::longestOnSunday);
        Due.sentence("42: for no PAY", PlanEdgesTest::longestForNoPay);
        Due.sentence("42: BAD", () -> {
            Twins.number(Scene::town, "longest, person", 0, 1, (x, v) -> x.longest(v));
            Twins.refuse(Scene::bare, "longest of nobody", -2, x -> x.longest(0));
        });
    }

    public static void main(String[] args) {
        plans();
        refusals();
        works();
        Due.end("PlanEdgesTest");
    }
}
