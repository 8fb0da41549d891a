/** Promises 14 to 16: THE TAPE, and the LANDS read from it. */
public final class TapeTest {
    private static void feedAndWipe() {
        SundayIsAPlace x = new SundayIsAPlace();
        Due.refused(x, "feed", x.feed(-1), -2, 0);
        Due.refused(x, "feed", x.feed(256), -2, 1);
        for (int i = 1; i <= 250; i++) {
            Due.is("feed", x.feed(i == 1 ? 0 : 255), i);
        }
        Due.refused(x, "feed a bad one more", x.feed(256), -2, 2);
        Due.refused(x, "feed one more", x.feed(32), -6, 0);
        Due.is("THE TAPE's size", x.status(6), 250);
        Due.is("wipe", x.wipe(), 250);
        Due.is("wipe again", x.wipe(), 0);
        Due.is("feed anew", x.feed(0), 1);
    }

    private static void wholeLand() {
        SundayIsAPlace x = new SundayIsAPlace();
        x.person(1, 2, 3);
        Due.is("land", Due.land(x, "fare 6 9;hours 0 12;pay 1 20;back 0;pass 0 6 9 12;person 5 9 6;duty 1 0;"
            + "duty 1 6;duty 0 2;at 1 5;purse 1 999"), 11);
        Due.is("THE TAPE is empty", x.status(6), 0);
        Due.is("FARE", x.valleyOf(6, 0), 9);
        Due.is("HOURS", x.valleyOf(0, 1), 12);
        Due.is("PAY", x.valleyOf(1, 2), 20);
        Due.is("BACK", x.status(2), 0);
        int[] pass = {0, 6, 9, 12};
        for (int what = 0; what < 4; what++) {
            Due.is("PASS", x.passOf(0, what), pass[what]);
        }
        int[] one = {5, 9, 6, 5, 65, 999, 0, 0};
        for (int what = 0; what < 8; what++) {
            Due.is("one", x.personOf(1, what), one[what]);
        }
        Due.is("DUTY of one that was", x.personOf(0, 4), 4);
        Due.is("land once more", Due.land(x, " pass1 2 0 1 ; person 0 0 0;duty2 6"), 3);
        Due.is("PEOPLE", x.status(0), 3);
        Due.is("PASSES", x.status(1), 2);
        Due.is("DUTY", x.personOf(2, 4), 64);
        Due.is("nothing was refused", x.status(12), 0);
    }

    private static void faults() {
        String[] texts = {"", "   ", "back 1;", "back 1; ", "back", "fare 1", "fare ", ";", "back 1;;back 1", "back 1 1",
            "backs 1", "bac k 1", "back x", "Back 1", "back 1\n", "back\t1", "back -1", "back 10", "back 0001",
            "back 1000", "back 1back 1", "fare 7 1", "fare 1 10", "hours 1 0", "hours 1 13", "hours 7 1", "pay 7 1",
            "pay 1 21", "pass 7 1 1 1", "pass 1 7 1 1", "pass 1 1 1 1", "pass 1 2 10 1", "pass 1 2 1 0",
            "pass 1 2 1 13", "pass 1 001 1 1", "person 6 1 1", "person 1 10 1", "person 1 1 7", "duty 1 1",
            "duty 0 7", "at 1 1", "at 0 7", "purse 1 1", "purse 0 1000", "duty 1 1;person 0 0 0", "12", "back ;",
            "back 1 ; A", "back 1 back 2", "back 9999999999999", "fare1 2 3", "backz 1", "mack 1", "bacl 1", "az", "back{1"};
        int[] places = {0, 3, 7, 8, 4, 6, 5, 0, 7, 7,
            0, 0, 5, 0, 6, 4, 5, 5, 5,
            5, 6, 5, 7, 8, 8, 6, 4,
            6, 5, 7, 7, 9, 11,
            11, 7, 7, 9, 11, 5,
            7, 3, 5, 6, 8, 5, 0, 5,
            9, 7, 5, 8, 0, 0, 0, 0, 4};
        for (int i = 0; i < texts.length; i++) {
            SundayIsAPlace x = new SundayIsAPlace();
            x.person(0, 0, 0);
            Due.is("land '" + texts[i] + "'", Due.land(x, texts[i]), -20 - places[i]);
            Due.is("BAD is counted", x.status(12), 1);
            Due.is("THE TAPE is empty", x.status(6), 0);
            Due.is("BACK is as it was", x.status(2), 2);
            Due.is("PEOPLE are as they were", x.status(0), 1);
        }
    }

    private static void noRoom() {
        SundayIsAPlace x = new SundayIsAPlace();
        Due.is("no room for a PASS", Due.land(x, "pass 0 1 0 1;pass 0 1 0 1;pass 0 1 0 1;pass 9"), -59);
        Due.is("no PASS", x.status(1), 0);
        Due.is("room", Due.land(x, "pass 0 1 0 1;pass 0 1 0 1;pass 0 1 0 1"), 3);
        Due.is("no room", Due.land(x, " pass"), -21);
        for (int i = 0; i < 5; i++) {
            x.person(0, 0, 0);
        }
        Due.is("room", Due.land(x, "person 0 0 0"), 1);
        Due.is("no room", Due.land(x, "back 1;person 0 0 0"), -27);
        Due.is("all or nothing", x.status(2), 2);
        Due.is("BAD was counted", x.status(12), 3);
        Due.is("FULL was not", x.status(16), 0);
    }

    private static void longest() {
        SundayIsAPlace x = new SundayIsAPlace();
        StringBuilder b = new StringBuilder("back7");
        for (int i = 0; i < 35; i++) {
            b.append(";back").append(i % 10).append(' ');
        }
        Due.is("size", b.length(), 250);
        Due.is("a TAPE that is full", Due.land(x, b.toString()), 36);
        Due.is("BACK is what was told last", x.status(2), 4);
        Due.is("three digits", Due.land(x, "fare 000 009"), 1);
        Due.is("FARE", x.valleyOf(0, 0), 9);
    }

    public static void main(String[] args) {
        feedAndWipe();
        wholeLand();
        faults();
        noRoom();
        longest();
        Due.end("TapeTest");
    }
}
