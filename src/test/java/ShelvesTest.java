/** Promises 1 to 8: a new object, and the SHELVES. */
public final class ShelvesTest {
    private static void newObject() {
        SundayIsAPlace x = new SundayIsAPlace();
        Due.is("NONE", SundayIsAPlace.NONE, -1);
        int[] status = {0, 0, 2, 0, 0, 0, 0, 1, 0, -1, -1, -1, 0, 0, 0, 0, 0, -1};
        for (int what = 0; what < status.length; what++) {
            Due.is("new: status " + what, x.status(what), status[what]);
        }
        for (int s = 0; s < 8; s++) {
            Due.is("new: holds " + s, x.holds(s), -1);
        }
        for (int v = 0; v < 7; v++) {
            Due.is("new: FARE", x.valleyOf(v, 0), 1);
            Due.is("new: HOURS", x.valleyOf(v, 1), 3);
            Due.is("new: PAY", x.valleyOf(v, 2), 4);
            Due.is("new: nobody AT", x.valleyOf(v, 3), 0);
        }
        Due.is("new: wipe", x.wipe(), 0);
        Due.is("new: nothing kept", x.back(), -5);
    }

    private static void row() {
        SundayIsAPlace x = new SundayIsAPlace();
        int[][] bad = {{-1, 0, 0}, {8, 0, 0}, {0, -1, 0}, {0, 5, 0}, {0, 0, -1}, {0, 0, 41},
            {Integer.MIN_VALUE, 0, 0}, {0, Integer.MAX_VALUE, 0}, {0, 0, Integer.MAX_VALUE}};
        for (int i = 0; i < bad.length; i++) {
            Due.refused(x, "row", x.row(bad[i][0], bad[i][1], bad[i][2]), -2, i);
        }
        for (int sort = 0; sort < 5; sort++) {
            Due.is("row", x.row(7, sort, 40), 1);
            Due.is("holds a ROW", x.holds(7), sort);
        }
        Due.put(x, 0, 2, 5, 6);
        Due.is("row anew", x.row(0, 2, 2), 1);
        Due.is("a new ROW is 0", x.element(0, 0), 0);
        Due.is("a new ROW is 0", x.element(0, 1), 0);
        Due.is("row of nothing", x.row(0, 0, 0), 1);
        Due.is("row of nothing holds", x.holds(0), 0);
        Due.is("shelves that hold", x.status(8), 2);
        x.show(7, -1);
        Due.is("the first SHELF holds", x.status(8), 1);
        x.show(0, -1);
        x.row(7, 0, 0);
        Due.is("the last SHELF holds", x.status(8), 1);
        x.show(7, -1);
        Due.is("no SHELF holds", x.status(8), 0);
        x.person(0, 0, 0);
        x.show(0, 0);
        Due.is("row over one", x.row(0, 4, 1), 1);
        Due.is("row over one holds", x.holds(0), 4);
    }

    private static void set() {
        SundayIsAPlace x = new SundayIsAPlace();
        long[] in = {0, 1, -1, 127, 128, 255, 256, 32767, 32768, 65536, 2147483647L, 2147483648L, 4294967296L,
            Long.MAX_VALUE, Long.MIN_VALUE};
        for (int sort = 0; sort < 5; sort++) {
            x.row(sort, sort, 1);
            for (long v : in) {
                long[] kept = {(byte) v, (short) v, (int) v, v, v == 0 ? 0 : 1};
                Due.is("set", x.set(sort, 0, v), 1);
                Due.is("sort " + sort + " keeps of " + v, x.element(sort, 0), kept[sort]);
            }
        }
        x.person(0, 0, 0);
        x.show(6, 0);
        Due.refused(x, "set no SHELF", x.set(-1, 0, 0), -2, 0);
        Due.refused(x, "set no SHELF", x.set(8, 0, 0), -2, 1);
        Due.refused(x, "set one of the PEOPLE", x.set(6, -1, 0), -3, 0);
        Due.refused(x, "set NOTHING", x.set(7, -1, 0), -4, 0);
        Due.refused(x, "set no place", x.set(0, -1, 0), -2, 2);
        Due.refused(x, "set no place", x.set(0, 1, 0), -2, 3);
        Due.refused(x, "set no place", x.set(0, Integer.MIN_VALUE, 0), -2, 4);
        x.row(0, 0, 40);
        Due.is("set the last", x.set(0, 39, 9), 1);
        Due.refused(x, "set behind the last", x.set(0, 40, 9), -2, 5);
    }

    private static void elements(SundayIsAPlace x, int s, long... due) {
        for (int i = 0; i < due.length; i++) {
            Due.is("element " + s + " " + i, x.element(s, i), due[i]);
        }
    }

    private static void copy() {
        SundayIsAPlace x = new SundayIsAPlace();
        Due.put(x, 0, 1, 1, 2, 3, 4, 5);
        Due.put(x, 1, 1, 9, 9, 9);
        Due.is("copy", x.copy(0, 1, 1, 0, 2), 2);
        elements(x, 1, 2, 3, 9);
        Due.is("copy into itself", x.copy(0, 0, 0, 1, 4), 4);
        elements(x, 0, 1, 1, 2, 3, 4);
        Due.is("copy into itself", x.copy(0, 0, 1, 0, 4), 4);
        elements(x, 0, 1, 2, 3, 4, 4);
        Due.is("copy none", x.copy(0, 1, 5, 3, 0), 0);
        x.row(2, 2, 5);
        x.person(0, 0, 0);
        x.show(3, 0);
        Due.refused(x, "copy of no SHELF", x.copy(-1, 3, 0, 0, 0), -2, 0);
        Due.refused(x, "copy to no SHELF", x.copy(3, 8, 0, 0, 0), -2, 1);
        Due.refused(x, "copy of one", x.copy(3, 4, -1, 0, 0), -3, 0);
        Due.refused(x, "copy to one", x.copy(4, 3, 0, 0, 0), -3, 1);
        Due.refused(x, "copy of two SORTS", x.copy(0, 2, -1, 0, 0), -3, 2);
        Due.refused(x, "copy of NOTHING", x.copy(4, 0, -1, 0, 0), -4, 0);
        Due.refused(x, "copy to NOTHING", x.copy(0, 4, 0, 0, 0), -4, 1);
        int[][] bad = {{-1, 0, 1}, {0, -1, 1}, {0, 0, -1}, {6, 0, 0}, {0, 4, 0}, {4, 0, 2}, {0, 2, 2},
            {1, 0, Integer.MAX_VALUE}, {Integer.MAX_VALUE, 0, Integer.MAX_VALUE}, {0, Integer.MAX_VALUE, 1}};
        for (int i = 0; i < bad.length; i++) {
            Due.refused(x, "copy " + i, x.copy(0, 1, bad[i][0], bad[i][1], bad[i][2]), -2, 2 + i);
        }
        elements(x, 0, 1, 2, 3, 4, 4);
        elements(x, 1, 2, 3, 9);
    }

    private static void elementAndHolds() {
        SundayIsAPlace x = new SundayIsAPlace();
        Due.put(x, 0, 3, 77);
        x.person(0, 0, 0);
        x.show(1, 0);
        int[][] none = {{-1, 0}, {8, 0}, {0, -1}, {0, 1}, {0, 40}, {1, 0}, {2, 0}, {0, Integer.MAX_VALUE}};
        for (int[] n : none) {
            Due.is("no element", x.element(n[0], n[1]), 0);
        }
        Due.is("element", x.element(0, 0), 77);
        Due.is("holds no SHELF", x.holds(-1), -1);
        Due.is("holds no SHELF", x.holds(8), -1);
        Due.is("nothing was refused", x.status(12), 0);
    }

    private static void show() {
        SundayIsAPlace x = new SundayIsAPlace();
        Due.refused(x, "show nobody there", x.show(0, 0), -2, 0);
        for (int p = 0; p < 6; p++) {
            x.person(0, p, 0);
            Due.is("show", x.show(7 - p, p), 1);
            Due.is("holds one", x.holds(7 - p), 10 + p);
        }
        Due.is("show NONE", x.show(7, -1), 1);
        Due.is("holds NOTHING", x.holds(7), -1);
        Due.is("show over a ROW", x.row(0, 0, 3), 1);
        Due.is("show over a ROW", x.show(0, 5), 1);
        Due.is("holds one", x.holds(0), 15);
        Due.is("that is no ROW", x.element(0, 0), 0);
        Due.refused(x, "show", x.show(8, 0), -2, 1);
        Due.refused(x, "show", x.show(-1, -1), -2, 2);
        Due.refused(x, "show", x.show(0, 6), -2, 3);
        Due.refused(x, "show", x.show(0, -2), -2, 4);
        Due.is("still there", x.holds(0), 15);
    }

    /** By KIND of the one in the SHELF and KIND that he is taken for: FARE is 7, a is 2. */
    private static void says() {
        int[][] due = {
            {2, -3, -3, -3, -3, -3},
            {2, 3, -3, -3, -3, -3},
            {2, -3, 9, -3, -3, -3},
            {2, 1, -3, 1, -3, -3},
            {2, -3, 9, -3, 9, -3},
            {2, -3, -3, -3, -3, 14}};
        SundayIsAPlace x = new SundayIsAPlace();
        x.ask(4, 0, 7);
        for (int kind = 0; kind < 6; kind++) {
            x.person(kind, 2, 0);
            x.tell(kind, 0, 4);
            x.show(0, kind);
            for (int taken = 0; taken < 6; taken++) {
                Due.is("says " + kind + " taken for " + taken, x.says(0, taken), due[kind][taken]);
            }
        }
        Due.is("refused OTHER", x.status(13), 23);
        Due.refused(x, "says no SHELF", x.says(-1, 0), -2, 0);
        Due.refused(x, "says no SHELF", x.says(8, 0), -2, 1);
        Due.refused(x, "says no KIND", x.says(1, -1), -2, 2);
        Due.refused(x, "says no KIND", x.says(0, 6), -2, 3);
        Due.refused(x, "says NOTHING", x.says(1, 0), -4, 0);
        x.row(1, 0, 0);
        Due.refused(x, "says a ROW", x.says(1, 0), -3, 23);
    }

    public static void main(String[] args) {
        newObject();
        row();
        set();
        copy();
        elementAndHolds();
        show();
        says();
        Due.end("ShelvesTest");
    }
}
