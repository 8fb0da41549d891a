/** Promises 43 to 48: deeds in truth, WEEKS by draws, what is kept, and how all stands. */
public final class TruthTest {
    private static void facts(SundayIsAPlace x, int person, int at, int purse, int tired, int age) {
        int[] due = {at, purse, tired, age};
        int[] what = {3, 5, 6, 7};
        for (int i = 0; i < 4; i++) {
            Due.is("fact " + what[i] + " of " + person, x.personOf(person, what[i]), due[i]);
        }
    }

    private static void act() {
        SundayIsAPlace x = new SundayIsAPlace();
        x.person(5, 0, 0);
        x.pass(0, 3, 2, 1);
        Due.is("FORWARD", x.act(0, 0), 1);
        facts(x, 0, 1, 18, 1, 1);
        Due.is("BACK", x.act(0, 1), 0);
        facts(x, 0, 0, 12, 2, 1);
        Due.is("PASS", x.act(0, 2), 3);
        facts(x, 0, 3, 8, 3, 1);
        Due.is("WORK", x.act(0, 8), 3);
        facts(x, 0, 3, 12, 5, 1);
        Due.refused(x, "REST but on Sunday", x.act(0, 9), -5, 0);
        Due.refused(x, "no PASS there", x.act(0, 2), -5, 1);
        Due.refused(x, "no such PASS", x.act(0, 4), -5, 2);
        x.tell(0, 0, 6);
        Due.refused(x, "WORK on Sunday", x.act(0, 8), -5, 3);
        Due.is("REST", x.act(0, 9), 6);
        facts(x, 0, 6, 12, 0, 1);
        Due.is("acts done in truth", x.status(5), 5);
        x.tell(0, 1, 1);
        Due.refused(x, "PURSE has it not", x.act(0, 0), -5, 4);
        x.tell(0, 1, 2);
        Due.is("PURSE has it just so", x.act(0, 0), 0);
        x.tell(0, 1, 998);
        x.tell(0, 2, 18);
        Due.is("PURSE is 999 at most", x.act(0, 8), 0);
        facts(x, 0, 0, 999, 20, 2);
        Due.refused(x, "TIRED", x.act(0, 0), -5, 5);
        int[] no = {-1, 5, 6, 7, 10, Integer.MAX_VALUE, Integer.MIN_VALUE};
        for (int i = 0; i < no.length; i++) {
            Due.refused(x, "no such act", x.act(0, no[i]), -2, i);
        }
        Due.refused(x, "act", x.act(1, 0), -2, no.length);
        Due.refused(x, "act", x.act(-1, 0), -2, no.length + 1);
    }

    /** 512 calls are too few for 999 STEPS, but for their PLANS they are not. */
    private static void age() {
        SundayIsAPlace x = new SundayIsAPlace();
        x.person(4, 0, 5);
        x.pass(6, 5, 9, 9);
        x.ask(5, 0, 0);
        long[] plan = new long[39];
        for (int i = 0; i < plan.length; i++) {
            plan[i] = new int[] {0, 9, 2}[i % 3];
        }
        Due.put(x, 0, 0, plan);
        for (int i = 0; i < 77; i++) {
            Due.is("done", x.done(0, 39, 0), 5);
        }
        facts(x, 0, 5, 20, 2, 999);
        Due.is("AGE is 999 at most", x.act(0, 0), 6);
        facts(x, 0, 6, 20, 3, 999);
        Due.is("all AGES", x.status(4), 999);
    }

    private static void weeks() {
        SundayIsAPlace x = new SundayIsAPlace();
        Due.is("weeks of nobody", x.weeks(60), 0);
        Due.is("no DRAW of nobody", x.status(7), 1);
        Due.refused(x, "weeks", x.weeks(0), -2, 0);
        Due.refused(x, "weeks", x.weeks(61), -2, 1);
        Due.refused(x, "weeks", x.weeks(-1), -2, 2);
        x.person(0, 0, 0);
        int seed = 1;
        int acts = 0;
        SundayIsAPlace y = new SundayIsAPlace();
        y.person(0, 0, 0);
        for (int week = 0; week < 12; week++) {
            seed = seed * 1103515245 + 12345;
            int draw = (seed >>> 16) % 6;
            int at = y.personOf(0, 3);
            acts += y.act(0, draw < 5 ? draw : at == 6 ? 9 : 8) >= 0 ? 1 : 0;
        }
        Due.is("weeks", x.weeks(12), acts);
        Due.is("acts done in truth", x.status(5), acts);
        Due.is("SEED", x.status(7), seed);
        for (int what = 0; what < 8; what++) {
            Due.is("one behind weeks", x.personOf(0, what), y.personOf(0, what));
        }
        Due.is("what can't be is not refused", x.status(15), 0);
    }

    private static void seed() {
        SundayIsAPlace x = new SundayIsAPlace();
        int[] seeds = {0, -1, Integer.MIN_VALUE, Integer.MAX_VALUE, 5};
        int was = 1;
        for (int s : seeds) {
            Due.is("seed", x.seed(s), was);
            Due.is("SEED", x.status(7), s);
            was = s;
        }
        x.person(0, 0, 0);
        x.seed(-77);
        x.weeks(1);
        Due.is("SEED wraps", x.status(7), -77 * 1103515245 + 12345);
    }

    private static void imageAndBack() {
        SundayIsAPlace x = new SundayIsAPlace();
        Due.refused(x, "back of nothing", x.back(), -5, 0);
        x.person(0, 1, 2);
        x.act(0, 0);
        x.pass(0, 1, 2, 3);
        x.ask(0, 3, 7);
        x.ask(4, 0, 8);
        x.duty(0, 5, true);
        x.seed(99);
        Due.is("image", x.image(), 1);
        x.person(1, 1, 1);
        x.pass(1, 2, 3, 4);
        x.ask(0, 3, 1);
        x.ask(4, 0, 2);
        x.act(0, 0);
        x.duty(0, 5, false);
        x.seed(5);
        x.show(0, 0);
        x.show(1, 1);
        Due.put(x, 2, 0, 42);
        x.feed(65);
        x.act(7, 0);
        for (int time = 0; time < 2; time++) {
            Due.is("back", x.back(), 1);
            int[] status = {1, 1, 7, 19, 1, 1, 1, 99, 2};
            for (int what = 0; what < status.length; what++) {
                Due.is("status " + what, x.status(what), status[what]);
            }
            facts(x, 0, 3, 19, 1, 1);
            Due.is("DUTY", x.personOf(0, 4), 32);
            Due.is("FARE", x.valleyOf(4, 0), 8);
            Due.is("SHELF with one", x.holds(0), 10);
            Due.is("SHELF with one that is no more", x.holds(1), -1);
            Due.is("SHELF with a ROW", x.element(2, 0), 42);
            Due.is("REFUSALS", x.status(12), 1);
            Due.is("REFUSALS", x.status(15), 1);
            x.act(0, 0);
            x.tell(0, 1, 500);
            x.ask(4, 0, 0);
            x.seed(7);
        }
        Due.is("that one anew", x.person(0, 0, 0), 1);
        Due.is("the SHELF holds him not", x.holds(1), -1);
        Due.is("image anew", x.image(), 1);
        x.tell(0, 1, 3);
        Due.is("back anew", x.back(), 1);
        Due.is("PURSE", x.personOf(0, 5), 500);
    }

    private static void status() {
        SundayIsAPlace x = new SundayIsAPlace();
        x.person(0, 0, 6);
        x.person(0, 0, 0);
        x.pass(0, 1, 0, 1);
        x.act(0, 0);
        x.act(1, 8);
        x.feed(1);
        x.show(3, 1);
        x.row(4, 0, 0);
        x.set(3, 0, 0);
        x.set(5, 0, 0);
        x.set(5, 0, 0);
        x.act(0, 9);
        x.act(0, 9);
        x.act(0, 9);
        x.pass(0, 1, 0, 1);
        x.pass(0, 1, 0, 1);
        x.pass(0, 1, 0, 1);
        x.pass(0, 1, 0, 1);
        x.row(8, 0, 0);
        int[] due = {2, 3, 2, 43, 1, 2, 1, 1, 2, -1, -1, -1, 1, 1, 2, 3, 2, -1};
        for (int what = 0; what < due.length; what++) {
            Due.is("status " + what, x.status(what), due[what]);
        }
        int[] none = {-1, Integer.MIN_VALUE, Integer.MAX_VALUE, 100};
        for (int what : none) {
            Due.is("status " + what, x.status(what), -1);
        }
    }

    public static void main(String[] args) {
        act();
        age();
        weeks();
        seed();
        imageAndBack();
        status();
        Due.end("TruthTest");
    }
}
