/** Objects as the tests of the edges want them, made anew by each call and with calls left of their 512. */
final class Scene {
    /** The SHELVES of a town. */
    static final int BYTES = 0;
    static final int SHORTS = 1;
    static final int INTS = 2;
    static final int LONGS = 3;
    static final int BOOLEANS = 4;
    static final int SOMEONE = 5;
    static final int NOTHING = 6;
    static final int NO_ELEMENTS = 7;

    private Scene() {
    }

    static SundayIsAPlace bare() {
        return new SundayIsAPlace();
    }

    /**
     * PEOPLE 0 (a PERSON AT 0) and 1 (a SMUGGLER AT 5), a PASS from 0 to 3, SHELVES of all sorts, a LAND on THE TAPE,
     * and something else kept, so that whatever changes can be seen.
     */
    static SundayIsAPlace town() {
        SundayIsAPlace x = new SundayIsAPlace();
        x.person(0, 7, 0);
        x.ask(2, 0, 5);
        x.ask(3, 1, 4);
        x.act(0, 8);
        x.seed(77);
        x.image();
        x.duty(0, 3, true);
        x.person(4, 2, 4);
        x.tell(1, 0, 5);
        x.tell(1, 2, 3);
        x.duty(1, 1, true);
        x.pass(0, 3, 2, 5);
        x.ask(1, 2, 6);
        x.seed(-5);
        shelves(x);
        Due.text(x, "back 7");
        return x;
    }

    /** A town with all the PASSES and PEOPLE that there may be. */
    static SundayIsAPlace fullTown() {
        SundayIsAPlace x = town();
        x.pass(5, 1, 0, 1);
        x.pass(6, 2, 9, 12);
        for (int kind = 1; kind < 5; kind++) {
            x.person(kind, 9 - kind, kind);
        }
        return x;
    }

    static SundayIsAPlace fullPasses() {
        SundayIsAPlace x = new SundayIsAPlace();
        x.person(2, 3, 4);
        for (int pass = 0; pass < 3; pass++) {
            x.pass(pass, 6, pass, 1 + pass);
        }
        return x;
    }

    static SundayIsAPlace fullPeople() {
        SundayIsAPlace x = new SundayIsAPlace();
        x.pass(2, 3, 4, 5);
        for (int kind = 0; kind < 6; kind++) {
            x.person(kind, kind, 6 - kind);
        }
        return x;
    }

    /** A ROW in each of the SHELVES, of what may be STAMPS and may be acts. */
    static SundayIsAPlace eightRows() {
        SundayIsAPlace x = new SundayIsAPlace();
        x.person(0, 0, 0);
        for (int s = 0; s < 8; s++) {
            fill(x, s, s % 5, 1, 0, 0);
        }
        return x;
    }

    /** THE TAPE is full: 250 bytes are on it, a LAND but for what stands last. */
    static SundayIsAPlace fullTape() {
        SundayIsAPlace x = new SundayIsAPlace();
        for (int i = 0; i < 50; i++) {
            Due.text(x, i == 0 ? "back1" : "     ");
        }
        return x;
    }

    private static void shelves(SundayIsAPlace x) {
        fill(x, BYTES, 0, -1, 1, 2);
        fill(x, SHORTS, 1, 0, 8);
        x.row(INTS, 2, 40);
        x.set(INTS, 0, -1);
        x.set(INTS, 39, 6);
        fill(x, LONGS, 3, 1L << 32, 7, -2);
        fill(x, BOOLEANS, 4, 1, 0);
        x.show(SOMEONE, 1);
        x.row(NO_ELEMENTS, 0, 0);
    }

    static void fill(SundayIsAPlace x, int s, int sort, long... elements) {
        x.row(s, sort, elements.length);
        for (int i = 0; i < elements.length; i++) {
            x.set(s, i, elements[i]);
        }
    }
}
