/** Promises 39 to 42: told PLANS, and LONGEST. */
public final class PlansTest {
    private static void behindDue(SundayIsAPlace x, int n, int... due) {
        Due.is("judge", x.judge(0, n, 0), -1);
        for (int what = 0; what < 5; what++) {
            Due.is("behind " + n + ", what " + what, x.behind(0, n, 0, what), due[what]);
        }
    }

    private static void ordinary() {
        SundayIsAPlace x = new SundayIsAPlace();
        x.person(0, 0, 5);
        Due.put(x, 0, 0, 8, 0, 9, 0, 1, 8);
        behindDue(x, 0, 5, 20, 0, 0, -1);
        behindDue(x, 1, 5, 24, 2, 0, -1);
        behindDue(x, 2, 6, 23, 3, 1, -1);
        behindDue(x, 3, 6, 23, 0, 1, -1);
        behindDue(x, 4, 0, 22, 1, 2, -1);
        behindDue(x, 5, 6, 19, 2, 2, -1);
        Due.is("WORK on Sunday is WRONG", x.judge(0, 6, 0), 5);
        Due.refused(x, "behind what is WRONG", x.behind(0, 6, 0, 0), -5, 0);
        Due.refused(x, "done what is WRONG", x.done(0, 6, 0), -5, 1);
        Due.is("nothing is changed", x.personOf(0, 3), 5);
        Due.is("nothing was done", x.status(5), 0);
        Due.is("done", x.done(0, 5, 0), 6);
        int[] due = {0, 0, 5, 6, 0, 19, 2, 2};
        for (int what = 0; what < 8; what++) {
            Due.is("one behind it", x.personOf(0, what), due[what]);
        }
        Due.is("acts done", x.status(5), 5);
        Due.is("done nothing", x.done(0, 0, 0), 6);
        Due.is("acts done", x.status(5), 5);
    }

    private static void wrong() {
        long[][] plans = {{5}, {7}, {10}, {-1}, {2}, {9}, {0, 0, 1L << 32}, {(1L << 32) + 8}, {8, 8, 3}, {Long.MIN_VALUE}};
        int[] due = {0, 0, 0, 0, 0, 0, 2, 0, 2, 0};
        SundayIsAPlace x = new SundayIsAPlace();
        x.person(0, 0, 0);
        x.pass(0, 4, 9, 1);
        x.tell(0, 0, 1);
        for (int i = 0; i < plans.length; i++) {
            Due.put(x, 0, 3, plans[i]);
            Due.is("WRONG " + i, x.judge(0, plans[i].length, 0), due[i]);
        }
        Due.is("WRONG is not refused", x.status(15), 0);
        x.tell(0, 0, 0);
        x.tell(0, 1, 8);
        Due.put(x, 0, 0, 8, 2, 0, 0, 0, 0);
        Due.is("PURSE lets it", x.behind(0, 5, 0, 1), 0);
        Due.is("PURSE lets it no more", x.judge(0, 6, 0), 5);
        x.tell(0, 2, 20);
        Due.put(x, 0, 0, 0);
        Due.is("TIRED lets no STEP", x.judge(0, 1, 0), 0);
        x.tell(0, 2, 19);
        Due.is("TIRED lets a STEP", x.judge(0, 1, 0), -1);
        Due.put(x, 0, 0, 8);
        Due.is("TIRED lets no WORK", x.judge(0, 1, 0), 0);
        x.tell(0, 2, 18);
        Due.is("TIRED lets WORK", x.judge(0, 1, 0), -1);
    }

    private static void lazyAndMost() {
        SundayIsAPlace x = new SundayIsAPlace();
        x.person(0, 0, 0);
        Due.put(x, 0, 0, 8, 8, 8, 8, 8, 8, 8, 8);
        Due.is("LAZY not yet", x.behind(0, 7, 0, 4), -1);
        Due.is("LAZY", x.behind(0, 8, 0, 4), 7);
        x.tell(0, 2, 2);
        Due.is("LAZY is the first", x.behind(0, 8, 0, 4), 6);
        x.tell(0, 2, 1);
        Due.is("LAZY at 15", x.behind(0, 7, 0, 4), 6);
        x.tell(0, 2, 18);
        Due.is("LAZY behind no act", x.behind(0, 0, 0, 4), -1);
        Due.is("LAZY at once", x.behind(0, 1, 0, 4), 0);
        x.tell(0, 1, 997);
        Due.is("PURSE is 999 at most", x.behind(0, 1, 0, 1), 999);
    }

    private static void rest() {
        int[] due = {0, 0, 7, 0, 7, 0};
        for (int kind = 0; kind < 6; kind++) {
            SundayIsAPlace x = new SundayIsAPlace();
            x.person(kind, 0, 6);
            x.tell(0, 2, 15);
            Due.put(x, 0, 0, 9);
            Due.is("REST of " + kind, x.behind(0, 1, 0, 2), due[kind]);
            Due.is("LAZY behind REST", x.behind(0, 1, 0, 4), -1);
        }
    }

    private static void refusals() {
        SundayIsAPlace x = new SundayIsAPlace();
        x.person(0, 0, 0);
        x.show(1, 0);
        Due.put(x, 0, 0, 5);
        int[][] bad = {{-1, 0, 0}, {8, 0, 0}, {0, -1, 0}, {0, 41, 0}, {0, 0, -1}, {0, 0, 1}, {0, 2, 0}, {1, 41, 0}, {2, 1, 1}};
        for (int i = 0; i < bad.length; i++) {
            Due.refused(x, "judge " + i, x.judge(bad[i][0], bad[i][1], bad[i][2]), -2, 3 * i);
            Due.refused(x, "behind " + i, x.behind(bad[i][0], bad[i][1], bad[i][2], 0), -2, 3 * i + 1);
            Due.refused(x, "done " + i, x.done(bad[i][0], bad[i][1], bad[i][2]), -2, 3 * i + 2);
        }
        Due.refused(x, "behind", x.behind(1, 0, 0, -1), -2, 27);
        Due.refused(x, "behind", x.behind(2, 0, 0, 5), -2, 28);
        Due.refused(x, "judge by one", x.judge(1, 1, 0), -3, 0);
        Due.refused(x, "behind by one", x.behind(1, 1, 0, 0), -3, 1);
        Due.refused(x, "done by one", x.done(1, 1, 0), -3, 2);
        Due.refused(x, "judge by NOTHING", x.judge(2, 1, 0), -4, 0);
        Due.refused(x, "behind by NOTHING", x.behind(2, 1, 0, 0), -4, 1);
        Due.refused(x, "done by NOTHING", x.done(2, 1, 0), -4, 2);
    }

    private static void longest() {
        SundayIsAPlace x = new SundayIsAPlace();
        x.person(0, 0, 0);
        int[] tired = {0, 1, 17, 18, 19, 20};
        int[] due = {10, 9, 1, 1, 0, 0};
        for (int i = 0; i < tired.length; i++) {
            x.tell(0, 2, tired[i]);
            Due.is("LONGEST", x.longest(0), due[i]);
        }
        x.tell(0, 2, 0);
        x.ask(0, 2, 0);
        Due.is("LONGEST without PAY", x.longest(0), 10);
        x.tell(0, 0, 6);
        Due.is("LONGEST on Sunday", x.longest(0), 0);
        Due.refused(x, "longest", x.longest(1), -2, 0);
        Due.refused(x, "longest", x.longest(-1), -2, 1);
    }

    public static void main(String[] args) {
        ordinary();
        wrong();
        lazyAndMost();
        rest();
        refusals();
        longest();
        Due.end("PlansTest");
    }
}
