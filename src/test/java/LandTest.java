/** Promises 9 to 13 and 17 to 19: what the VALLEYS, PASSES and PEOPLE are. */
public final class LandTest {
    private static void ask() {
        SundayIsAPlace x = new SundayIsAPlace();
        int[] first = {1, 3, 4};
        int[] low = {0, 1, 0};
        int[] high = {9, 12, 20};
        for (int what = 0; what < 3; what++) {
            for (int v = 0; v < 7; v += 6) {
                Due.is("ask least", x.ask(v, what, low[what]), first[what]);
                Due.is("ask most", x.ask(v, what, high[what]), low[what]);
                Due.is("valleyOf", x.valleyOf(v, what), high[what]);
            }
            Due.is("another VALLEY", x.valleyOf(3, what), first[what]);
        }
        Due.is("ask BACK", x.ask(0, 3, 9), 2);
        Due.is("ask BACK", x.ask(0, 3, 0), 9);
        Due.is("BACK", x.status(2), 0);
        int[][] bad = {{-1, 0, 0}, {7, 0, 0}, {0, -1, 0}, {0, 4, 0}, {0, 0, -1}, {0, 0, 10}, {0, 1, 0}, {0, 1, 13},
            {0, 2, -1}, {0, 2, 21}, {0, 3, -1}, {0, 3, 10}, {1, 3, 1}, {-1, 3, 1}, {0, Integer.MAX_VALUE, 1}};
        for (int i = 0; i < bad.length; i++) {
            Due.refused(x, "ask " + i, x.ask(bad[i][0], bad[i][1], bad[i][2]), -2, i);
        }
    }

    private static void pass() {
        SundayIsAPlace x = new SundayIsAPlace();
        int[][] bad = {{-1, 0, 0, 1}, {7, 0, 0, 1}, {0, -1, 0, 1}, {0, 7, 0, 1}, {3, 3, 0, 1}, {0, 1, -1, 1},
            {0, 1, 10, 1}, {0, 1, 0, 0}, {0, 1, 0, 13}};
        for (int i = 0; i < bad.length; i++) {
            Due.refused(x, "pass " + i, x.pass(bad[i][0], bad[i][1], bad[i][2], bad[i][3]), -2, i);
        }
        Due.is("no PASS yet", x.status(1), 0);
        Due.refused(x, "no PASS yet", x.passOf(0, 0), -2, 9);
        int[][] good = {{0, 6, 0, 1}, {6, 0, 9, 12}, {0, 6, 5, 5}};
        for (int i = 0; i < 3; i++) {
            Due.is("pass", x.pass(good[i][0], good[i][1], good[i][2], good[i][3]), i);
        }
        for (int i = 0; i < 3; i++) {
            for (int what = 0; what < 4; what++) {
                Due.is("passOf", x.passOf(i, what), good[i][what]);
            }
        }
        Due.refused(x, "a bad fourth", x.pass(3, 3, 0, 1), -2, 10);
        Due.refused(x, "a fourth", x.pass(1, 2, 0, 1), -6, 0);
        Due.refused(x, "passOf", x.passOf(3, 0), -2, 11);
        Due.refused(x, "passOf", x.passOf(-1, 0), -2, 12);
        Due.refused(x, "passOf", x.passOf(0, -1), -2, 13);
        Due.refused(x, "passOf", x.passOf(0, 4), -2, 14);
        Due.is("PASSES", x.status(1), 3);
    }

    private static void person() {
        SundayIsAPlace x = new SundayIsAPlace();
        int[][] bad = {{-1, 0, 0}, {6, 0, 0}, {0, -1, 0}, {0, 10, 0}, {0, 0, -1}, {0, 0, 7}};
        for (int i = 0; i < bad.length; i++) {
            Due.refused(x, "person " + i, x.person(bad[i][0], bad[i][1], bad[i][2]), -2, i);
        }
        Due.refused(x, "nobody yet", x.personOf(0, 0), -2, 6);
        for (int p = 0; p < 6; p++) {
            Due.is("person", x.person(p, 9 - p, p + 1), p);
            int[] facts = {p, 9 - p, p + 1, p + 1, 0, 20, 0, 0};
            for (int what = 0; what < 8; what++) {
                Due.is("personOf " + what, x.personOf(p, what), facts[what]);
            }
        }
        Due.refused(x, "a bad seventh", x.person(0, 0, 7), -2, 7);
        Due.refused(x, "a seventh", x.person(0, 0, 0), -6, 0);
        Due.refused(x, "personOf", x.personOf(6, 0), -2, 8);
        Due.refused(x, "personOf", x.personOf(-1, 0), -2, 9);
        Due.refused(x, "personOf", x.personOf(0, 8), -2, 10);
        Due.refused(x, "personOf", x.personOf(0, -1), -2, 11);
        Due.is("all PURSES", x.status(3), 120);
    }

    private static void duty() {
        SundayIsAPlace x = new SundayIsAPlace();
        x.person(0, 0, 0);
        x.person(0, 0, 0);
        Due.is("duty", x.duty(0, 0, true), 0);
        Due.is("duty", x.duty(0, 6, true), 0);
        Due.is("duty again", x.duty(0, 6, true), 1);
        Due.is("DUTY", x.personOf(0, 4), 65);
        Due.is("no duty", x.duty(0, 0, false), 1);
        Due.is("no duty again", x.duty(0, 0, false), 0);
        Due.is("DUTY", x.personOf(0, 4), 64);
        Due.is("DUTY of another", x.personOf(1, 4), 0);
        int[][] bad = {{-1, 0}, {2, 0}, {0, -1}, {0, 7}, {0, 32}};
        for (int i = 0; i < bad.length; i++) {
            Due.refused(x, "duty " + i, x.duty(bad[i][0], bad[i][1], true), -2, i);
        }
    }

    private static void tell() {
        SundayIsAPlace x = new SundayIsAPlace();
        x.person(0, 0, 4);
        int[] first = {4, 20, 0, 4};
        int[] most = {6, 999, 20, 6};
        int[] fact = {3, 5, 6, 2};
        for (int what = 0; what < 4; what++) {
            Due.is("tell most", x.tell(0, what, most[what]), first[what]);
            Due.is("told", x.personOf(0, fact[what]), most[what]);
            Due.refused(x, "tell more", x.tell(0, what, most[what] + 1), -2, 2 * what);
            Due.refused(x, "tell less", x.tell(0, what, -1), -2, 2 * what + 1);
            Due.is("tell least", x.tell(0, what, 0), most[what]);
            Due.is("told", x.personOf(0, fact[what]), 0);
        }
        Due.refused(x, "tell", x.tell(1, 0, 0), -2, 8);
        Due.refused(x, "tell", x.tell(-1, 0, 0), -2, 9);
        Due.refused(x, "tell", x.tell(0, -1, 0), -2, 10);
        Due.refused(x, "tell", x.tell(0, 4, 0), -2, 11);
    }

    private static void valleyOf() {
        SundayIsAPlace x = new SundayIsAPlace();
        x.person(0, 0, 2);
        x.person(0, 0, 2);
        x.person(0, 0, 5);
        Due.is("PEOPLE AT", x.valleyOf(2, 3), 2);
        x.tell(0, 0, 5);
        Due.is("PEOPLE AT", x.valleyOf(2, 3), 1);
        Due.is("PEOPLE AT", x.valleyOf(5, 3), 2);
        Due.refused(x, "valleyOf", x.valleyOf(-1, 0), -2, 0);
        Due.refused(x, "valleyOf", x.valleyOf(7, 3), -2, 1);
        Due.refused(x, "valleyOf", x.valleyOf(0, -1), -2, 2);
        Due.refused(x, "valleyOf", x.valleyOf(0, 4), -2, 3);
    }

    public static void main(String[] args) {
        ask();
        pass();
        person();
        duty();
        tell();
        valleyOf();
        Due.end("LandTest");
    }
}
