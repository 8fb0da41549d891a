/** Promises 1 to 8, a new object and the SHELVES: each sentence that names an edge has a test of its own. */
public final class ShelfEdgesTest {
    private static final int[] NO_SHELF = {-1, 8, Integer.MIN_VALUE, Integer.MAX_VALUE};
    private static final int MIN = Integer.MIN_VALUE;
    private static final int MAX = Integer.MAX_VALUE;

    private static void elements(SundayIsAPlace x, int s, long... due) {
        for (int i = 0; i < due.length; i++) {
            Due.is("element " + s + " " + i, x.element(s, i), due[i]);
        }
    }

    // ---- 1

    private static void noPasses() {
        SundayIsAPlace x = Scene.bare();
        Due.is("PASSES", x.status(1), 0);
        Due.is("PASS 0", x.passOf(0, 0), -2);
        Due.is("the next PASS", x.pass(0, 1, 0, 1), 0);
    }

    private static void nobody() {
        SundayIsAPlace x = Scene.bare();
        Due.is("PEOPLE", x.status(0), 0);
        Due.is("one 0", x.personOf(0, 0), -2);
        for (int v = 0; v < 7; v++) {
            Due.is("PEOPLE AT " + v, x.valleyOf(v, 3), 0);
        }
        Due.is("all PURSES", x.status(3), 0);
        Due.is("all AGES", x.status(4), 0);
        Due.is("the next one", x.person(0, 0, 0), 0);
    }

    private static void shelvesHoldNothing() {
        SundayIsAPlace x = Scene.bare();
        for (int s = 0; s < 8; s++) {
            Due.is("SHELF " + s, x.holds(s), SundayIsAPlace.NONE);
        }
        Due.is("SHELVES that hold something", x.status(8), 0);
    }

    private static void tapeIsEmpty() {
        Due.is("size", Scene.bare().status(6), 0);
        Due.is("wipe", Scene.bare().wipe(), 0);
        Due.is("land", Scene.bare().land(), -20);
        Due.is("feed", Scene.bare().feed(32), 1);
    }

    private static void countsAtFirst() {
        SundayIsAPlace x = Scene.bare();
        Due.is("acts", x.status(5), 0);
        for (int what = 12; what <= 16; what++) {
            Due.is("REFUSALS " + what, x.status(what), 0);
        }
    }

    private static void objectsStandApart() {
        SundayIsAPlace x = Scene.town();
        x.row(9, 0, 0);
        nobody();
        noPasses();
        shelvesHoldNothing();
        tapeIsEmpty();
        countsAtFirst();
        Due.is("FARE of another object", Scene.bare().valleyOf(2, 0), 1);
        Due.is("SEED of another object", Scene.bare().status(7), 1);
        Due.is("nothing kept of another object", Scene.bare().back(), -5);
        Due.is("the first is as it was", x.status(0), 2);
    }

    // ---- 2

    private static void rowsSort() {
        Twins.number(Scene::town, "row, sort", 0, 4, (x, v) -> x.row(0, v, 3));
        SundayIsAPlace x = Scene.bare();
        for (int sort = 0; sort < 5; sort++) {
            Due.is("row", x.row(3, sort, 1), 1);
            Due.is("SORT", x.holds(3), sort);
        }
    }

    private static void rowsSize() {
        Twins.number(Scene::town, "row, n", 0, 40, (x, v) -> x.row(0, 0, v));
        for (int n : new int[] {1, 39, 40}) {
            SundayIsAPlace x = Scene.bare();
            Due.is("row of " + n, x.row(0, 0, n), 1);
            Due.is("the last of " + n, x.set(0, n - 1, 7), 1);
            Due.is("the one behind it", x.set(0, n, 7), -2);
        }
    }

    private static void rowOfNoElements() {
        SundayIsAPlace x = Scene.bare();
        Due.is("row", x.row(0, 2, 0), 1);
        Due.is("it is a ROW", x.holds(0), 2);
        Due.is("it is something", x.status(8), 1);
        Due.is("element", x.element(0, 0), 0);
        Due.is("set", x.set(0, 0, 1), -2);
        Due.is("copy none of it", x.copy(0, 0, 0, 0, 0), 0);
        Due.is("copy one of it", x.copy(0, 0, 0, 0, 1), -2);
        Due.is("a JOURNEY of no STEPS", x.journeys(0, 0, 0, 0), 1);
        Due.is("a JOURNEY of one STEP", x.journeys(0, 1, 0, 0), -2);
    }

    private static void rowIsNothingAtFirst() {
        SundayIsAPlace x = Scene.bare();
        for (int sort = 0; sort < 5; sort++) {
            x.row(0, sort, 40);
            for (int i = 0; i < 40; i++) {
                Due.is("new of sort " + sort, x.element(0, i), 0);
                x.set(0, i, 9);
            }
        }
    }

    private static void rowIsNewOverARow() {
        SundayIsAPlace x = Scene.bare();
        Scene.fill(x, 0, 2, 5, 6, 7);
        Due.is("row anew", x.row(0, 2, 3), 1);
        elements(x, 0, 0, 0, 0);
        Scene.fill(x, 0, 2, 5, 6, 7);
        x.row(0, 2, 1);
        x.row(0, 2, 3);
        elements(x, 0, 0, 0, 0);
    }

    private static void rowOverOneOfThePeople() {
        SundayIsAPlace x = Scene.town();
        Due.is("row", x.row(Scene.SOMEONE, 1, 2), 1);
        Due.is("SORT", x.holds(Scene.SOMEONE), 1);
        Due.is("he is no more there", x.says(Scene.SOMEONE, 0), -3);
    }

    private static void rowAnswersOne() {
        Due.is("row of none", Scene.bare().row(0, 0, 0), 1);
        Due.is("row of forty", Scene.bare().row(7, 4, 40), 1);
    }

    // ---- 3

    private static void setsPlace() {
        Twins.number(Scene::town, "set, i of 3", 0, 2, (x, v) -> x.set(Scene.BYTES, v, 5));
        Twins.number(Scene::town, "set, i of 40", 0, 39, (x, v) -> x.set(Scene.INTS, v, 5));
        for (int i : new int[] {4, 39, 40}) {
            Twins.refuse(Scene::town, "set, i " + i + " of 3", -2, x -> x.set(Scene.BYTES, i, 5));
        }
        SundayIsAPlace x = Scene.bare();
        x.row(0, 2, 40);
        Due.is("set the first", x.set(0, 0, 3), 1);
        Due.is("set the last", x.set(0, 39, 4), 1);
        Due.is("the first", x.element(0, 0), 3);
        Due.is("the last", x.element(0, 39), 4);
        Due.is("the second", x.element(0, 1), 0);
    }

    private static void keeps(int sort, long... inAndOut) {
        SundayIsAPlace x = Scene.bare();
        x.row(0, sort, 2);
        for (int i = 0; i < inAndOut.length; i += 2) {
            Due.is("set", x.set(0, 0, inAndOut[i]), 1);
            Due.is("sort " + sort + " keeps of " + inAndOut[i], x.element(0, 0), inAndOut[i + 1]);
            Due.is("the next is as it was", x.element(0, 1), 0);
        }
    }

    private static void bytesKeepEightBits() {
        keeps(0, 127, 127, 128, -128, -128, -128, -129, 127, 255, -1, 256, 0, 257, 1, 1L << 32, 0,
            Long.MAX_VALUE, -1, Long.MIN_VALUE, 0);
    }

    private static void shortsKeepSixteenBits() {
        keeps(1, 32767, 32767, 32768, -32768, -32768, -32768, -32769, 32767, 65535, -1, 65536, 0, 65537, 1, 128, 128,
            Long.MAX_VALUE, -1, Long.MIN_VALUE, 0);
    }

    private static void intsKeepThirtyTwoBits() {
        keeps(2, MAX, MAX, MAX + 1L, MIN, MIN, MIN, MIN - 1L, MAX, (1L << 32) - 1, -1, 1L << 32, 0, (1L << 32) + 1, 1,
            32768, 32768, Long.MAX_VALUE, -1, Long.MIN_VALUE, 0);
    }

    private static void longsKeepAll() {
        keeps(3, Long.MAX_VALUE, Long.MAX_VALUE, Long.MIN_VALUE, Long.MIN_VALUE, 1L << 32, 1L << 32, -1, -1,
            MAX + 1L, MAX + 1L);
    }

    private static void booleansKeepWhether() {
        keeps(4, 0, 0, 1, 1, 0, 0, 2, 1, -1, 1, 256, 1, 65536, 1, 1L << 32, 1, Long.MIN_VALUE, 1, Long.MAX_VALUE, 1);
    }

    private static void setRefuses() {
        for (int s : NO_SHELF) {
            Twins.refuse(Scene::town, "set in SHELF " + s, -2, x -> x.set(s, 0, 1));
        }
        Twins.refuse(Scene::town, "set in one", -3, x -> x.set(Scene.SOMEONE, 0, 1));
        Twins.refuse(Scene::town, "set in NOTHING", -4, x -> x.set(Scene.NOTHING, 0, 1));
        Twins.refuse(Scene::town, "set in no elements", -2, x -> x.set(Scene.NO_ELEMENTS, 0, 1));
    }

    private static void setLooksAtTheShelfFirst() {
        Twins.refuse(Scene::town, "no place in one", -3, x -> x.set(Scene.SOMEONE, -1, 1));
        Twins.refuse(Scene::town, "no place in one", -3, x -> x.set(Scene.SOMEONE, 40, 1));
        Twins.refuse(Scene::town, "no place in NOTHING", -4, x -> x.set(Scene.NOTHING, -1, 1));
        Twins.refuse(Scene::town, "no place in NOTHING", -4, x -> x.set(Scene.NOTHING, 40, 1));
    }

    // ---- 4

    private static SundayIsAPlace twoRows() {
        SundayIsAPlace x = Scene.bare();
        Scene.fill(x, 0, 1, 1, 2, 3, 4, 5);
        Scene.fill(x, 1, 1, 7, 8, 9);
        return x;
    }

    private static void copyAsTheyWere() {
        SundayIsAPlace x = twoRows();
        Due.is("copy further on", x.copy(0, 0, 0, 1, 4), 4);
        elements(x, 0, 1, 1, 2, 3, 4);
        SundayIsAPlace y = twoRows();
        Due.is("copy further ahead", y.copy(0, 0, 1, 0, 4), 4);
        elements(y, 0, 2, 3, 4, 5, 5);
        Due.is("copy onto itself", y.copy(0, 0, 0, 0, 5), 5);
        elements(y, 0, 2, 3, 4, 5, 5);
    }

    private static void copyAnswersN() {
        SundayIsAPlace x = twoRows();
        for (int n = 0; n <= 3; n++) {
            Due.is("copy " + n, x.copy(0, 1, 1, 0, n), n);
        }
        elements(x, 1, 2, 3, 4);
        elements(x, 0, 1, 2, 3, 4, 5);
    }

    private static void copyOfForty() {
        SundayIsAPlace x = Scene.bare();
        x.row(0, 0, 40);
        x.row(1, 0, 40);
        x.set(0, 0, 1);
        x.set(0, 39, 2);
        Due.is("copy", x.copy(0, 1, 0, 0, 40), 40);
        Due.is("the first", x.element(1, 0), 1);
        Due.is("the last", x.element(1, 39), 2);
        Due.is("copy the last", x.copy(0, 1, 39, 0, 1), 1);
        Due.is("the first", x.element(1, 0), 2);
        Due.is("copy to the last", x.copy(1, 0, 1, 39, 1), 1);
        Due.is("the last", x.element(0, 39), 0);
    }

    private static void copyOfNone() {
        Twins.keep(ShelfEdgesTest::twoRows, "none from the first place", 0, x -> x.copy(0, 1, 0, 0, 0));
        Twins.keep(ShelfEdgesTest::twoRows, "none from behind the last", 0, x -> x.copy(0, 1, 5, 3, 0));
        Twins.keep(Scene::town, "none of no elements", 0, x -> x.copy(Scene.NO_ELEMENTS, Scene.BYTES, 0, 3, 0));
        Twins.refuse(ShelfEdgesTest::twoRows, "none from further on", -2, x -> x.copy(0, 1, 6, 0, 0));
        Twins.refuse(ShelfEdgesTest::twoRows, "none to further on", -2, x -> x.copy(0, 1, 0, 4, 0));
    }

    private static void copysPlaceInTheFirst() {
        Twins.number(ShelfEdgesTest::twoRows, "copy, i", 0, 3, (x, v) -> x.copy(0, 1, v, 0, 2));
    }

    private static void copysPlaceInTheSecond() {
        Twins.number(ShelfEdgesTest::twoRows, "copy, j", 0, 1, (x, v) -> x.copy(0, 1, 0, v, 2));
    }

    private static void copysNumber() {
        Twins.number(ShelfEdgesTest::twoRows, "copy, n by the first's size", 0, 2, (x, v) -> x.copy(0, 1, 3, 0, v));
        Twins.number(ShelfEdgesTest::twoRows, "copy, n by the second's size", 0, 2, (x, v) -> x.copy(0, 1, 0, 1, v));
        Twins.refuse(ShelfEdgesTest::twoRows, "i and n wrap", -2, x -> x.copy(0, 1, MAX, 0, MAX));
        Twins.refuse(ShelfEdgesTest::twoRows, "j and n wrap", -2, x -> x.copy(0, 1, 0, MAX, MAX));
        Twins.refuse(ShelfEdgesTest::twoRows, "i and n together fit", -2, x -> x.copy(0, 1, -1, 0, 2));
        Twins.refuse(ShelfEdgesTest::twoRows, "j and n together fit", -2, x -> x.copy(0, 1, 0, -1, 2));
    }

    private static void copysShelves() {
        for (int s : NO_SHELF) {
            Twins.refuse(Scene::town, "copy from SHELF " + s, -2, x -> x.copy(s, Scene.BYTES, 0, 0, 1));
            Twins.refuse(Scene::town, "copy to SHELF " + s, -2, x -> x.copy(Scene.BYTES, s, 0, 0, 1));
        }
    }

    private static void copysShelvesAheadOfWhatTheyHold() {
        Twins.refuse(Scene::town, "from no SHELF to one", -2, x -> x.copy(-1, Scene.SOMEONE, 0, 0, 1));
        Twins.refuse(Scene::town, "from one to no SHELF", -2, x -> x.copy(Scene.SOMEONE, 8, 0, 0, 1));
        Twins.refuse(Scene::town, "from no SHELF to NOTHING", -2, x -> x.copy(8, Scene.NOTHING, 0, 0, 1));
        Twins.refuse(Scene::town, "from NOTHING to no SHELF", -2, x -> x.copy(Scene.NOTHING, -1, 0, 0, 1));
    }

    private static void copysOther() {
        Twins.refuse(Scene::town, "from one", -3, x -> x.copy(Scene.SOMEONE, Scene.BYTES, 0, 0, 1));
        Twins.refuse(Scene::town, "to one", -3, x -> x.copy(Scene.BYTES, Scene.SOMEONE, 0, 0, 1));
        Twins.refuse(Scene::town, "from one to one", -3, x -> x.copy(Scene.SOMEONE, Scene.SOMEONE, 0, 0, 1));
    }

    private static void copysTwoSorts() {
        for (int p = 0; p < 5; p++) {
            for (int q = 0; q < 5; q++) {
                int from = p;
                int to = q;
                if (p != q) {
                    Twins.refuse(Scene::town, "sorts " + p + ", " + q, -3, x -> x.copy(from, to, 0, 0, 1));
                }
            }
            SundayIsAPlace x = Scene.town();
            x.row(7, p, 1);
            Due.is("one sort " + p, x.copy(p, 7, 0, 0, 1), 1);
            Due.is("that element", x.element(7, 0), x.element(p, 0));
        }
    }

    private static void copysTwoSortsIfBothHoldSomething() {
        Twins.refuse(Scene::town, "from ints to NOTHING", -4, x -> x.copy(Scene.INTS, Scene.NOTHING, 0, 0, 1));
        Twins.refuse(Scene::town, "from NOTHING to ints", -4, x -> x.copy(Scene.NOTHING, Scene.INTS, 0, 0, 1));
        Twins.refuse(Scene::town, "from NOTHING to it", -4, x -> x.copy(Scene.NOTHING, Scene.NOTHING, 0, 0, 1));
    }

    private static void copysOtherAheadOfNothing() {
        Twins.refuse(Scene::town, "from one to NOTHING", -3, x -> x.copy(Scene.SOMEONE, Scene.NOTHING, 0, 0, 1));
        Twins.refuse(Scene::town, "from NOTHING to one", -3, x -> x.copy(Scene.NOTHING, Scene.SOMEONE, 0, 0, 1));
    }

    private static void copysOthersLast() {
        for (int[] b : new int[][] {{-1, 0, 1}, {0, -1, 1}, {0, 0, -1}, {0, 0, 41}}) {
            Twins.refuse(Scene::town, "bad, from one", -3, x -> x.copy(5, 0, b[0], b[1], b[2]));
            Twins.refuse(Scene::town, "bad, to one", -3, x -> x.copy(0, 5, b[0], b[1], b[2]));
            Twins.refuse(Scene::town, "bad, two sorts", -3, x -> x.copy(0, 1, b[0], b[1], b[2]));
            Twins.refuse(Scene::town, "bad, from NOTHING", -4, x -> x.copy(6, 0, b[0], b[1], b[2]));
            Twins.refuse(Scene::town, "bad, to NOTHING", -4, x -> x.copy(0, 6, b[0], b[1], b[2]));
        }
    }

    // ---- 5 and 6

    private static void elementOfNone() {
        for (int i : new int[] {-1, 3, 40, 41, MIN, MAX}) {
            Twins.keep(Scene::town, "element " + i + " of three", 0, x -> x.element(Scene.BYTES, i));
        }
        for (int i : new int[] {-1, 40, MIN, MAX}) {
            Twins.keep(Scene::town, "element " + i + " of forty", 0, x -> x.element(Scene.INTS, i));
        }
        Twins.keep(Scene::town, "the last of forty", 6, x -> x.element(Scene.INTS, 39));
    }

    private static void elementOfNoRow() {
        for (int s : NO_SHELF) {
            Twins.keep(Scene::town, "element in SHELF " + s, 0, x -> x.element(s, 0));
        }
        Twins.keep(Scene::town, "element of NOTHING", 0, x -> x.element(Scene.NOTHING, 0));
        Twins.keep(Scene::town, "element of one", 0, x -> x.element(Scene.SOMEONE, 0));
        Twins.keep(Scene::town, "element of no elements", 0, x -> x.element(Scene.NO_ELEMENTS, 0));
    }

    private static void elementOfWhatWasThere() {
        SundayIsAPlace x = Scene.town();
        x.row(Scene.INTS, 2, 39);
        Due.is("behind a shorter ROW", x.element(Scene.INTS, 39), 0);
        x.show(Scene.BYTES, 0);
        Due.is("where one is now", x.element(Scene.BYTES, 1), 0);
        x.show(Scene.LONGS, -1);
        Due.is("where NOTHING is now", x.element(Scene.LONGS, 0), 0);
        Due.is("nothing is refused", x.status(12) + x.status(13) + x.status(14), 0);
    }

    private static void elementThatLooksLikeARefusal() {
        Twins.keep(Scene::town, "element", -2, x -> x.element(Scene.LONGS, 2));
        Twins.keep(Scene::town, "element", -1, x -> x.element(Scene.BYTES, 0));
        Twins.keep(Scene::town, "element", 1L << 32, x -> x.element(Scene.LONGS, 0));
    }

    private static void holdsNone() {
        for (int s : NO_SHELF) {
            Twins.keep(Scene::town, "holds " + s, -1, x -> x.holds(s));
        }
        Twins.keep(Scene::town, "holds NOTHING", -1, x -> x.holds(Scene.NOTHING));
    }

    private static void holdsARowBySort() {
        for (int sort = 0; sort < 5; sort++) {
            int s = sort;
            Twins.keep(Scene::town, "holds " + s, s, x -> x.holds(s));
        }
        Twins.keep(Scene::town, "holds no elements", 0, x -> x.holds(Scene.NO_ELEMENTS));
    }

    private static void holdsTenAndTheNumber() {
        SundayIsAPlace x = Scene.fullTown();
        for (int person = 0; person < 6; person++) {
            x.show(7 - person, person);
            Due.is("holds one", x.holds(7 - person), 10 + person);
        }
    }

    // ---- 7

    private static void showsShelf() {
        Twins.number(Scene::town, "show, s", 0, 7, (x, v) -> x.show(v, 0));
        Twins.number(Scene::town, "show NONE, s", 0, 7, (x, v) -> x.show(v, -1));
    }

    private static void showsPerson() {
        Twins.number(Scene::town, "show, person or NONE", -1, 1, (x, v) -> x.show(0, v));
        Twins.number(Scene::fullTown, "show, person of six", -1, 5, (x, v) -> x.show(0, v));
        SundayIsAPlace x = Scene.town();
        Due.is("show the first", x.show(0, 0), 1);
        Due.is("holds the first", x.holds(0), 10);
        Due.is("show the last", x.show(0, 1), 1);
        Due.is("holds the last", x.holds(0), 11);
    }

    private static void showNobody() {
        Twins.number(Scene::bare, "show where nobody is", -1, -1, (x, v) -> x.show(0, v));
        Twins.keep(Scene::bare, "NOTHING anew", 1, x -> x.show(0, -1));
    }

    private static void showNone() {
        SundayIsAPlace x = Scene.town();
        Due.is("NONE over one", x.show(Scene.SOMEONE, -1), 1);
        Due.is("NOTHING", x.holds(Scene.SOMEONE), -1);
        Due.is("NONE over a ROW", x.show(Scene.INTS, -1), 1);
        Due.is("NOTHING", x.holds(Scene.INTS), -1);
        Due.is("SHELVES that hold something", x.status(8), 5);
        Due.is("it is NOTHING", x.set(Scene.INTS, 0, 1), -4);
    }

    // ---- 8

    private static SundayIsAPlace sixKinds() {
        SundayIsAPlace x = Scene.bare();
        x.ask(4, 0, 7);
        x.ask(6, 0, 9);
        for (int kind = 0; kind < 6; kind++) {
            x.person(kind, 2, 4);
            x.show(kind, kind);
        }
        x.row(6, 4, 1);
        return x;
    }

    private static void saysA() {
        for (int a : new int[] {0, 9}) {
            SundayIsAPlace x = Scene.bare();
            x.person(5, a, 0);
            x.show(0, 0);
            Due.is("his a", x.says(0, 0), a);
        }
    }

    /** By the KIND of one, then by the KIND that he is taken for: OTHER where he is not under it. */
    private static void saysByHisOwnKind() {
        int[][] due = {
            {2, -3, -3, -3, -3, -3},
            {2, 3, -3, -3, -3, -3},
            {2, -3, 9, -3, -3, -3},
            {2, 1, -3, 1, -3, -3},
            {2, -3, 9, -3, 9, -3},
            {2, -3, -3, -3, -3, 14}};
        for (int kind = 0; kind < 6; kind++) {
            for (int taken = 0; taken < 6; taken++) {
                int s = kind;
                int as = taken;
                String call = "says " + kind + " taken for " + taken;
                if (due[kind][taken] == -3) {
                    Twins.refuse(ShelfEdgesTest::sixKinds, call, -3, x -> x.says(s, as));
                } else {
                    Twins.keep(ShelfEdgesTest::sixKinds, call, due[kind][taken], x -> x.says(s, as));
                }
            }
        }
    }

    private static void saysFromWhereHeIs() {
        SundayIsAPlace x = sixKinds();
        x.tell(5, 0, 6);
        Due.is("from the last VALLEY", x.says(5, 5), 18);
        x.tell(5, 0, 0);
        Due.is("from the first VALLEY", x.says(5, 5), 2);
        x.tell(3, 0, 0);
        Due.is("nothing at least", x.says(3, 1), 0);
    }

    private static void saysNumbers() {
        Twins.number(Scene::town, "says, KIND", 0, 5, (x, v) -> x.says(Scene.SOMEONE, v));
        for (int s : NO_SHELF) {
            Twins.refuse(Scene::town, "says in SHELF " + s, -2, x -> x.says(s, 0));
        }
    }

    private static void saysBadFirst() {
        for (int kind : new int[] {-1, 6}) {
            Twins.refuse(Scene::town, "no KIND, a ROW", -2, x -> x.says(Scene.INTS, kind));
            Twins.refuse(Scene::town, "no KIND, NOTHING", -2, x -> x.says(Scene.NOTHING, kind));
            Twins.refuse(Scene::town, "no KIND, one", -2, x -> x.says(Scene.SOMEONE, kind));
        }
    }

    private static void saysOther() {
        for (int s = 0; s < 5; s++) {
            int row = s;
            Twins.refuse(Scene::town, "says a ROW", -3, x -> x.says(row, 0));
        }
        Twins.refuse(Scene::town, "says no elements", -3, x -> x.says(Scene.NO_ELEMENTS, 0));
    }

    private static void saysNothing() {
        Twins.refuse(Scene::town, "says NOTHING", -4, x -> x.says(Scene.NOTHING, 0));
        Twins.refuse(Scene::town, "says NOTHING", -4, x -> x.says(Scene.NOTHING, 5));
    }

    private static void newObjectAndRow() {
        Due.sentence("1: No PASSES", ShelfEdgesTest::noPasses);
        Due.sentence("1: nobody", ShelfEdgesTest::nobody);
        Due.sentence("1: SHELVES hold NOTHING", ShelfEdgesTest::shelvesHoldNothing);
        Due.sentence("1: THE TAPE is empty", ShelfEdgesTest::tapeIsEmpty);
        Due.sentence("48: acts done in truth, REFUSALS: none of a new object", ShelfEdgesTest::countsAtFirst);
        Due.sentence("1: a new object", ShelfEdgesTest::objectsStandApart);
        Due.sentence("2: a SORT (0 .. 4)", ShelfEdgesTest::rowsSort);
        Due.sentence("2: SHELVES 0 to 7", () -> Twins.number(Scene::town, "row, s", 0, 7, (x, v) -> x.row(v, 0, 3)));
        Due.sentence("2: 0 to 40 elements", ShelfEdgesTest::rowsSize);
        Due.sentence("2: a ROW of no elements", ShelfEdgesTest::rowOfNoElements);
        Due.sentence("2: elements (0, or not so, at first)", ShelfEdgesTest::rowIsNothingAtFirst);
        Due.sentence("2: a new ROW", ShelfEdgesTest::rowIsNewOverARow);
        Due.sentence("2: SHELF s holds a new ROW", ShelfEdgesTest::rowOverOneOfThePeople);
        Due.sentence("2: 1", ShelfEdgesTest::rowAnswersOne);
    }

    private static void setAndCopy() {
        Due.sentence("3: Element i becomes v; BAD i", ShelfEdgesTest::setsPlace);
        Due.sentence("3: keeps its lowest bits (bytes)", ShelfEdgesTest::bytesKeepEightBits);
        Due.sentence("3: keeps its lowest bits (shorts)", ShelfEdgesTest::shortsKeepSixteenBits);
        Due.sentence("3: keeps its lowest bits (ints)", ShelfEdgesTest::intsKeepThirtyTwoBits);
        Due.sentence("3: keeps its lowest bits (longs)", ShelfEdgesTest::longsKeepAll);
        Due.sentence("3: of booleans: whether it is not 0", ShelfEdgesTest::booleansKeepWhether);
        Due.sentence("3: BAD SHELF; OTHER; NOTHING", ShelfEdgesTest::setRefuses);
        Due.sentence("3: OTHER; NOTHING; BAD i: in this order", ShelfEdgesTest::setLooksAtTheShelfFirst);
        Due.sentence("4: (as they were)", ShelfEdgesTest::copyAsTheyWere);
        Due.sentence("4: n", ShelfEdgesTest::copyAnswersN);
        Due.sentence("4: n elements, 40 at most", ShelfEdgesTest::copyOfForty);
        Due.sentence("4: n elements, none", ShelfEdgesTest::copyOfNone);
        Due.sentence("4: BAD the others (i)", ShelfEdgesTest::copysPlaceInTheFirst);
        Due.sentence("4: BAD the others (j)", ShelfEdgesTest::copysPlaceInTheSecond);
        Due.sentence("4: BAD the others (n)", ShelfEdgesTest::copysNumber);
        Due.sentence("4: BAD SHELVES", ShelfEdgesTest::copysShelves);
        Due.sentence("4: BAD SHELVES; OTHER: in this order", ShelfEdgesTest::copysShelvesAheadOfWhatTheyHold);
        Due.sentence("4: OTHER", ShelfEdgesTest::copysOther);
        Due.sentence("4: also ROWS of two SORTS", ShelfEdgesTest::copysTwoSorts);
        Due.sentence("4: if both hold something", ShelfEdgesTest::copysTwoSortsIfBothHoldSomething);
        Due.sentence("4: OTHER; NOTHING: in this order", ShelfEdgesTest::copysOtherAheadOfNothing);
        Due.sentence("4: OTHER; NOTHING; BAD the others: in this order", ShelfEdgesTest::copysOthersLast);
    }

    private static void whatIsThere() {
        Due.sentence("5: 0: none (nothing is refused)", ShelfEdgesTest::elementOfNone);
        Due.sentence("5: 0: no ROW (nothing is refused)", ShelfEdgesTest::elementOfNoRow);
        Due.sentence("5: Element i of the ROW, whatever it is", ShelfEdgesTest::elementThatLooksLikeARefusal);
        Due.sentence("5: 0: what was there ahead of it", ShelfEdgesTest::elementOfWhatWasThere);
        Due.sentence("6: NONE NOTHING, no SHELF", ShelfEdgesTest::holdsNone);
        Due.sentence("6: 0 to 4 a ROW by its SORT", ShelfEdgesTest::holdsARowBySort);
        Due.sentence("6: 10 and the number of one of the PEOPLE", ShelfEdgesTest::holdsTenAndTheNumber);
        Due.sentence("7: BAD (SHELF)", ShelfEdgesTest::showsShelf);
        Due.sentence("7: BAD (person)", ShelfEdgesTest::showsPerson);
        Due.sentence("7: BAD (nobody)", ShelfEdgesTest::showNobody);
        Due.sentence("7: or NOTHING (person NONE)", ShelfEdgesTest::showNone);
        Due.sentence("8: PERSON his a", ShelfEdgesTest::saysA);
        Due.sentence("8: by his own KIND; OTHER (no such KIND nor one under it)", ShelfEdgesTest::saysByHisOwnKind);
        Due.sentence("8: from where he is AT", ShelfEdgesTest::saysFromWhereHeIs);
        Due.sentence("8: BAD SHELF, KIND", ShelfEdgesTest::saysNumbers);
        Due.sentence("8: BAD SHELF, KIND; OTHER; NOTHING: in this order", ShelfEdgesTest::saysBadFirst);
        Due.sentence("8: OTHER (a ROW)", ShelfEdgesTest::saysOther);
        Due.sentence("8: NOTHING", ShelfEdgesTest::saysNothing);
    }

    public static void main(String[] args) {
        newObjectAndRow();
        setAndCopy();
        whatIsThere();
        Due.end("ShelfEdgesTest");
    }
}
