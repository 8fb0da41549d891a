/** Promise 38: JOURNEYS by a ROW of STAMPS. */
public final class StampsTest {
    /** How many, where one may be, FORGED, SURE: by the first n of the ROW in SHELF 0. */
    private static void due(SundayIsAPlace x, int n, int valley, int... due) {
        for (int what = 0; what < 4; what++) {
            Due.is("journeys by " + n + " from " + valley + ", what " + what, x.journeys(0, n, valley, what), due[what]);
        }
    }

    private static void ordinary() {
        SundayIsAPlace x = new SundayIsAPlace();
        Due.put(x, 0, 0, -1, -1);
        due(x, 0, 6, 1, 64, -1, 0);
        due(x, 1, 0, 2, 66, -1, 0);
        due(x, 2, 0, 4, 37, -1, 0);
        Due.put(x, 0, 1, 1, -1, 1);
        due(x, 3, 0, 2, 2, -1, 0);
        due(x, 3, 3, 0, 0, 0, 0);
        Due.put(x, 0, 2, -1, 2, -1, 4);
        due(x, 2, 0, 1, 4, -1, 1);
        due(x, 3, 0, 2, 10, -1, 1);
        due(x, 4, 0, 1, 16, -1, 2);
        due(x, 4, 2, 2, 16, -1, 1);
        Due.put(x, 0, 3, -1, 3, -1, 6);
        due(x, 4, 0, 0, 0, 1, 0);
        due(x, 4, 1, 0, 0, 3, 0);
        Due.put(x, 0, 3, 1, 1);
        due(x, 2, 0, 0, 0, 1, 0);
        x.row(0, 4, 2);
        x.set(0, 0, 9);
        due(x, 2, 0, 1, 1, -1, 0);
        due(x, 1, 0, 1, 2, -1, 0);
    }

    private static void passes() {
        SundayIsAPlace x = new SundayIsAPlace();
        x.pass(0, 1, 9, 12);
        Due.put(x, 0, 0, 1, -1);
        due(x, 1, 0, 2, 2, -1, 0);
        due(x, 2, 0, 4, 5, -1, 0);
        x.pass(0, 3, 0, 1);
        Due.put(x, 0, 0, -1, 4);
        due(x, 1, 0, 4, 74, -1, 0);
        due(x, 2, 0, 1, 16, -1, 1);
    }

    private static void most() {
        SundayIsAPlace x = new SundayIsAPlace();
        x.row(0, 0, 40);
        for (int i = 0; i < 40; i++) {
            x.set(0, i, -1);
        }
        due(x, 19, 0, 524288, 127, -1, 0);
        due(x, 20, 0, 1000000, 127, -1, 0);
        due(x, 40, 3, 1000000, 127, -1, 0);
    }

    private static void refusals() {
        SundayIsAPlace x = new SundayIsAPlace();
        x.person(0, 0, 0);
        x.show(1, 0);
        Due.put(x, 0, 3, 1, 7, -2, 1L << 32, Long.MIN_VALUE);
        int[][] bad = {{-1, 1, 0, 0}, {8, 1, 0, 0}, {0, -1, 0, 0}, {0, 41, 0, 0}, {0, 1, -1, 0}, {0, 1, 7, 0},
            {0, 1, 0, -1}, {0, 1, 0, 4}, {0, 6, 0, 0}, {1, 41, 0, 0}, {2, 1, 7, 0}};
        for (int i = 0; i < bad.length; i++) {
            Due.refused(x, "journeys " + i, x.journeys(bad[i][0], bad[i][1], bad[i][2], bad[i][3]), -2, i);
        }
        Due.refused(x, "journeys of one", x.journeys(1, 40, 0, 0), -3, 0);
        Due.refused(x, "journeys of NOTHING", x.journeys(2, 40, 0, 0), -4, 0);
        Due.is("what is behind n does not count", x.journeys(0, 1, 0, 0), 1);
        Due.refused(x, "no VALLEY", x.journeys(0, 2, 0, 0), -5, 0);
        Due.put(x, 0, 3, -2);
        Due.refused(x, "no VALLEY", x.journeys(0, 1, 0, 2), -5, 1);
        Due.put(x, 0, 3, (1L << 32) + 1);
        Due.refused(x, "no VALLEY", x.journeys(0, 1, 0, 3), -5, 2);
        Due.put(x, 0, 3, (1L << 32) - 1);
        Due.refused(x, "no VALLEY", x.journeys(0, 1, 0, 1), -5, 3);
    }

    public static void main(String[] args) {
        ordinary();
        passes();
        most();
        refusals();
        Due.end("StampsTest");
    }
}
