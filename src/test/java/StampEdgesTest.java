import java.util.function.Supplier;

/** Promise 38, JOURNEYS by a ROW of STAMPS: each sentence that names an edge has a test of its own. */
public final class StampEdgesTest {
    private static final int HOW_MANY = 0;
    private static final int WHERE = 1;
    private static final int FORGED = 2;
    private static final int SURE = 3;

    /** A land without PASSES, or with those told, and STAMPS in SHELF 0. */
    private static SundayIsAPlace stamped(int[][] passes, int sort, long... stamps) {
        SundayIsAPlace x = Scene.bare();
        for (int[] p : passes) {
            x.pass(p[0], p[1], p[2], p[3]);
        }
        Scene.fill(x, 0, sort, stamps);
        return x;
    }

    private static SundayIsAPlace stamped(long... stamps) {
        return stamped(new int[0][], 3, stamps);
    }

    /** From VALLEY 0 by the first n: how many, where one may be, FORGED, SURE. */
    private static void due(SundayIsAPlace x, int n, int... due) {
        for (int what = 0; what < 4; what++) {
            Due.is("journeys by " + n + ", what " + what, x.journeys(0, n, 0, what), due[what]);
        }
        Due.is("nothing is refused", x.status(12) + x.status(15), 0);
    }

    private static void ofNoStamps() {
        due(stamped(), 0, 1, 1, -1, 0);
        due(stamped(-1, -1), 0, 1, 1, -1, 0);
        due(stamped(-2, 9), 0, 1, 1, -1, 0);
        for (int v = 0; v < 7; v++) {
            int valley = v;
            Twins.keep(Scene::town, "where", 1 << v, x -> x.journeys(Scene.NO_ELEMENTS, 0, valley, WHERE));
        }
    }

    private static void stampMayBe() {
        due(stamped(-1), 1, 2, 66, -1, 0);
        due(stamped(1), 1, 1, 2, -1, 0);
        due(stamped(6), 1, 1, 64, -1, 0);
        due(stamped(1, 0), 2, 1, 1, -1, 0);
        due(stamped(2), 1, 0, 0, 0, 0);
        due(stamped(0), 1, 0, 0, 0, 0);
        for (int v = 0; v < 7; v++) {
            int valley = v;
            Twins.keep(() -> stamped((valley + 1) % 7), "to the next", 1, x -> x.journeys(0, 1, valley, HOW_MANY));
            Twins.keep(() -> stamped((valley + 6) % 7), "to the one ahead", 1, x -> x.journeys(0, 1, valley, HOW_MANY));
            Twins.keep(() -> stamped(valley), "to itself", 0, x -> x.journeys(0, 1, valley, HOW_MANY));
        }
    }

    private static void fromAValleyOn() {
        SundayIsAPlace x = stamped(-1, -1);
        int[] behindOne = {66, 5, 10, 20, 40, 80, 33};
        int[] behindTwo = {37, 74, 21, 42, 84, 41, 82};
        for (int v = 0; v < 7; v++) {
            Due.is("where, from " + v, x.journeys(0, 0, v, WHERE), 1 << v);
            Due.is("where, from " + v, x.journeys(0, 1, v, WHERE), behindOne[v]);
            Due.is("where, from " + v, x.journeys(0, 2, v, WHERE), behindTwo[v]);
            Due.is("how many, from " + v, x.journeys(0, 2, v, HOW_MANY), 4);
        }
    }

    private static void stampMayNotBe() {
        long[] no = {-2, 7, Long.MIN_VALUE, Long.MAX_VALUE, 1L << 32, (1L << 32) + 1, (1L << 32) - 1, -1L << 32};
        for (long stamp : no) {
            for (int what = 0; what < 4; what++) {
                int w = what;
                Twins.refuse(() -> stamped(stamp), "STAMP " + stamp, -5, x -> x.journeys(0, 1, 0, w));
                Twins.refuse(() -> stamped(3, 3, stamp), "STAMP " + stamp + ", last", -5, x -> x.journeys(0, 3, 0, w));
            }
        }
    }

    private static void stampsOfEachSort() {
        for (int sort = 0; sort < 4; sort++) {
            int s = sort;
            Twins.refuse(() -> stamped(new int[0][], s, 7), "sort " + s, -5, x -> x.journeys(0, 1, 0, 0));
            Twins.refuse(() -> stamped(new int[0][], s, -2), "sort " + s, -5, x -> x.journeys(0, 1, 0, 0));
            due(stamped(new int[0][], s, -1), 1, 2, 66, -1, 0);
        }
        due(stamped(new int[0][], 0, 257), 1, 1, 2, -1, 0);
        due(stamped(new int[0][], 4, 1, 0), 2, 1, 1, -1, 0);
        due(stamped(new int[0][], 4, -1), 1, 1, 2, -1, 0);
    }

    private static void behindTheFirstN() {
        due(stamped(1, -2), 1, 1, 2, -1, 0);
        due(stamped(1, 1), 1, 1, 2, -1, 0);
        due(stamped(-1, 1), 1, 2, 66, -1, 0);
        due(stamped(-1, 1, 9), 2, 0, 0, 1, 0);
    }

    private static void howManyAtMost() {
        SundayIsAPlace x = Scene.bare();
        x.row(0, 0, 40);
        for (int i = 0; i < 40; i++) {
            x.set(0, i, -1);
        }
        due(x, 19, 524288, 127, -1, 0);
        due(x, 20, 1000000, 127, -1, 0);
        due(x, 21, 1000000, 127, -1, 0);
        due(x, 40, 1000000, 127, -1, 0);
    }

    /** Five ways from 0 to 2 by two STEPS, one way back; two ways from 0 to 1, one back: 5 and 2 as often as told. */
    private static SundayIsAPlace fivesAndTwos(int fives, int twos) {
        SundayIsAPlace x = stamped(new int[][] {{0, 1, 1, 1}, {1, 2, 1, 1}, {0, 3, 1, 1}}, 0);
        x.row(0, 0, 4 * fives + 2 * twos);
        int[] five = {-1, 2, 1, 0};
        int[] two = {1, 0};
        for (int i = 0; i < 4 * fives; i++) {
            x.set(0, i, five[i % 4]);
        }
        for (int i = 0; i < 2 * twos; i++) {
            x.set(0, 4 * fives + i, two[i % 2]);
        }
        return x;
    }

    private static void howManyJustSo() {
        due(fivesAndTwos(1, 0), 4, 5, 1, -1, 0);
        due(fivesAndTwos(6, 0), 24, 15625, 1, -1, 0);
        due(fivesAndTwos(6, 5), 34, 500000, 1, -1, 0);
        due(fivesAndTwos(6, 6), 36, 1000000, 1, -1, 0);
        due(fivesAndTwos(6, 7), 38, 1000000, 1, -1, 0);
    }

    private static void howManyOverflows() {
        SundayIsAPlace x = stamped(new int[][] {{0, 1, 1, 1}, {0, 1, 1, 1}, {0, 1, 1, 1}}, 0);
        x.row(0, 1, 40);
        for (int i = 0; i < 40; i++) {
            x.set(0, i, 1 - i % 2);
        }
        due(x, 18, 262144, 1, -1, 0);
        due(x, 19, 1000000, 2, -1, 0);
        due(x, 32, 1000000, 1, -1, 0);
        due(x, 40, 1000000, 1, -1, 0);
    }

    private static void passesCountApart() {
        due(stamped(new int[][] {{0, 1, 9, 12}}, 0, 1), 1, 2, 2, -1, 0);
        due(stamped(new int[][] {{0, 1, 9, 12}, {0, 1, 0, 1}, {0, 3, 0, 1}}, 0, -1), 1, 5, 74, -1, 0);
        due(stamped(new int[][] {{1, 0, 0, 1}}, 0, 1), 1, 1, 2, -1, 0);
        due(stamped(new int[][] {{3, 0, 0, 1}}, 0, 3), 1, 0, 0, 0, 0);
        due(stamped(new int[][] {{0, 3, 0, 1}}, 0, 3), 1, 1, 8, -1, 0);
    }

    private static void forgedIsTheFirst() {
        due(stamped(0, 0, 0), 3, 0, 0, 0, 0);
        due(stamped(1, 3, 3), 3, 0, 0, 1, 0);
        due(stamped(1, 2, 2), 3, 0, 0, 2, 0);
        due(stamped(-1, -1, 0, -1), 4, 0, 0, 2, 0);
        due(stamped(-1, -1, 2, -1), 3, 0, 0, 2, 0);
        SundayIsAPlace x = Scene.bare();
        x.row(0, 0, 40);
        for (int i = 0; i < 39; i++) {
            x.set(0, i, -1);
        }
        x.pass(0, 1, 0, 1);
        x.set(0, 38, 3);
        x.set(0, 39, 3);
        due(x, 39, 1000000, 8, -1, 0);
        due(x, 40, 0, 0, 39, 0);
    }

    private static void forgedIsNone() {
        Twins.keep(() -> stamped(1, 2, 3), "FORGED", -1, x -> x.journeys(0, 3, 0, FORGED));
        Twins.keep(Scene::town, "FORGED of no STAMPS", -1, x -> x.journeys(Scene.NO_ELEMENTS, 0, 0, FORGED));
        Twins.keep(() -> stamped(3, 3), "FORGED at once", 0, x -> x.journeys(0, 2, 0, FORGED));
    }

    private static void sureOfThoseNotStamped() {
        due(stamped(-1, 2, -1, 4), 4, 1, 16, -1, 2);
        due(stamped(1, 2, 3, 4), 4, 1, 16, -1, 0);
        due(stamped(-1, 0), 2, 2, 1, -1, 0);
        due(stamped(-1, 2), 2, 1, 4, -1, 1);
        due(stamped(2, -1), 2, 0, 0, 0, 0);
        due(stamped(1, -1), 2, 2, 5, -1, 0);
        due(stamped(-1, -1, 3), 3, 1, 8, -1, 2);
        due(stamped(-1, -1, 1), 3, 3, 2, -1, 0);
        due(stamped(-1, -1, -1, -1, 2), 5, 1, 4, -1, 4);
    }

    /** By the whole ROW: what follows makes sure of what was ahead of it. */
    private static void sureByTheWholeRow() {
        SundayIsAPlace x = stamped(-1, -1, -1, 3);
        due(x, 1, 2, 66, -1, 0);
        due(x, 2, 4, 37, -1, 0);
        due(x, 3, 8, 90, -1, 0);
        due(x, 4, 1, 8, -1, 3);
    }

    private static void sureIfNoneFits() {
        due(stamped(-1, 2, -1, 4, 4), 4, 1, 16, -1, 2);
        due(stamped(-1, 2, -1, 4, 4), 5, 0, 0, 4, 0);
        due(stamped(-1, 3), 2, 0, 0, 1, 0);
    }

    private static void sureByPasses() {
        due(stamped(new int[][] {{0, 2, 0, 1}}, 0, -1, 3), 2, 1, 8, -1, 1);
        due(stamped(new int[][] {{0, 1, 0, 1}, {0, 1, 0, 1}}, 0, -1, 2), 2, 3, 4, -1, 1);
        due(stamped(new int[][] {{0, 3, 0, 1}}, 0, -1, 2), 2, 2, 4, -1, 0);
    }

    private static void badNumbers() {
        Twins.number(Scene::eightRows, "journeys, s", 0, 7, (x, v) -> x.journeys(v, 3, 0, 0));
        Twins.number(Scene::town, "journeys, n", 0, 40, (x, v) -> x.journeys(Scene.INTS, v, 0, 0));
        Twins.number(Scene::town, "journeys, valley", 0, 6, (x, v) -> x.journeys(Scene.BYTES, 3, v, 0));
        Twins.number(Scene::town, "journeys, what", 0, 3, (x, v) -> x.journeys(Scene.BYTES, 3, 0, v));
    }

    private static void fewerElements() {
        Twins.number(Scene::town, "journeys, n of three", 0, 3, (x, v) -> x.journeys(Scene.BYTES, v, 0, 0));
        Twins.number(Scene::town, "journeys, n of none", 0, 0, (x, v) -> x.journeys(Scene.NO_ELEMENTS, v, 0, 0));
        Twins.refuse(Scene::town, "all forty of three", -2, x -> x.journeys(Scene.BYTES, 40, 0, 0));
    }

    private static void badAhead(int s, String of) {
        Twins.refuse(Scene::town, "41, " + of, -2, x -> x.journeys(s, 41, 0, 0));
        Twins.refuse(Scene::town, "n -1, " + of, -2, x -> x.journeys(s, -1, 0, 0));
        Twins.refuse(Scene::town, "no VALLEY, " + of, -2, x -> x.journeys(s, 1, 7, 0));
        Twins.refuse(Scene::town, "no VALLEY, " + of, -2, x -> x.journeys(s, 1, -1, 0));
        Twins.refuse(Scene::town, "no what, " + of, -2, x -> x.journeys(s, 1, 0, 4));
        Twins.refuse(Scene::town, "no what, " + of, -2, x -> x.journeys(s, 1, 0, -1));
    }

    private static void otherAndNothing() {
        for (int n : new int[] {0, 1, 40}) {
            Twins.refuse(Scene::town, "by one, n " + n, -3, x -> x.journeys(Scene.SOMEONE, n, 0, 0));
            Twins.refuse(Scene::town, "by NOTHING, n " + n, -4, x -> x.journeys(Scene.NOTHING, n, 0, 0));
        }
    }

    private static void fewerAheadOfStuck() {
        Supplier<SundayIsAPlace> made = () -> stamped(7, -2);
        Twins.refuse(made, "three of two", -2, x -> x.journeys(0, 3, 0, 0));
        Twins.refuse(made, "two of two", -5, x -> x.journeys(0, 2, 0, 0));
        Twins.refuse(made, "one of two", -5, x -> x.journeys(0, 1, 0, 0));
        Twins.refuse(made, "what can't be, of what can't fit", -5, x -> x.journeys(0, 1, 3, FORGED));
        Twins.refuse(() -> stamped(3, 3, 7), "STUCK, not FORGED", -5, x -> x.journeys(0, 3, 0, FORGED));
    }

    private static void howManyAndWhere() {
        Due.sentence("38: a ROW of no STAMPS", StampEdgesTest::ofNoStamps);
        Due.sentence("38: the VALLEY behind a STEP, or -1 (not stamped)", StampEdgesTest::stampMayBe);
        Due.sentence("38: from a VALLEY on", StampEdgesTest::fromAValleyOn);
        Due.sentence("38: STUCK: an element that is neither -1 nor a VALLEY", StampEdgesTest::stampMayNotBe);
        Due.sentence("38: an element as its SORT keeps it", StampEdgesTest::stampsOfEachSort);
        Due.sentence("38: by the first n elements", StampEdgesTest::behindTheFirstN);
        Due.sentence("38: how many (1,000,000 at most): by VALLEYS together", StampEdgesTest::howManyAtMost);
        Due.sentence("38: how many (1,000,000 at most): just so many", StampEdgesTest::howManyJustSo);
        Due.sentence("38: how many (1,000,000 at most): no int overflows", StampEdgesTest::howManyOverflows);
        Due.sentence("38: a JOURNEY is a row of STEPS: PASSES count apart, one way", StampEdgesTest::passesCountApart);
        Due.sentence("38: FORGED: the first STAMP", StampEdgesTest::forgedIsTheFirst);
        Due.sentence("38: FORGED: NONE (NONE isn't refused)", StampEdgesTest::forgedIsNone);
        Due.sentence("38: SURE: of those not stamped", StampEdgesTest::sureOfThoseNotStamped);
        Due.sentence("38: SURE: by all that fit the whole ROW", StampEdgesTest::sureByTheWholeRow);
        Due.sentence("38: SURE: (0 if none fits)", StampEdgesTest::sureIfNoneFits);
        Due.sentence("38: SURE: but one VALLEY, by PASSES", StampEdgesTest::sureByPasses);
    }

    private static void refusals() {
        Due.sentence("38: BAD SHELF, n, valley, what", StampEdgesTest::badNumbers);
        Due.sentence("38: BAD: fewer elements", StampEdgesTest::fewerElements);
        Due.sentence("38: BAD; OTHER: in this order", () -> badAhead(Scene.SOMEONE, "by one"));
        Due.sentence("38: BAD; NOTHING: in this order", () -> badAhead(Scene.NOTHING, "by NOTHING"));
        Due.sentence("38: BAD; STUCK: in this order", () -> badAhead(Scene.LONGS, "what can't be"));
        Due.sentence("38: OTHER; NOTHING; BAD: fewer elements: in this order", StampEdgesTest::otherAndNothing);
        Due.sentence("38: BAD: fewer elements; STUCK: in this order", StampEdgesTest::fewerAheadOfStuck);
        Due.sentence("38: SURE of no STAMPS",
            () -> Twins.keep(Scene::town, "SURE", 0, x -> x.journeys(Scene.NO_ELEMENTS, 0, 0, SURE)));
    }

    public static void main(String[] args) {
        howManyAndWhere();
        refusals();
        Due.end("StampEdgesTest");
    }
}
