import java.util.function.Supplier;

/** Promises 14 to 16, THE TAPE and the LANDS on it: each sentence that names an edge has a test of its own. */
public final class TapeEdgesTest {
    private static final int FIRST_FAULT = -20;

    /** What of the land must be so when a text has come to what there is. */
    private interface Told {
        boolean is(SundayIsAPlace x, int v);
    }

    /** Two PEOPLE and one PASS, and nothing on THE TAPE. */
    private static SundayIsAPlace pair() {
        SundayIsAPlace x = Scene.bare();
        x.person(0, 0, 2);
        x.person(1, 1, 2);
        x.pass(0, 1, 2, 3);
        return x;
    }

    private static SundayIsAPlace pairAndTape(String text) {
        SundayIsAPlace x = pair();
        Due.text(x, text);
        return x;
    }

    private static void reads(String text, int statements) {
        SundayIsAPlace x = pairAndTape(text);
        Due.is("land '" + text + "'", x.land(), statements);
        Due.is("size behind '" + text + "'", x.status(6), 0);
        Due.is("BAD behind '" + text + "'", x.status(12), 0);
    }

    /** The FAULT is answered, BAD is counted once, THE TAPE is empty, and nothing else is changed. */
    private static void faults(Supplier<SundayIsAPlace> made, String text, int fault) {
        Supplier<SundayIsAPlace> fed = () -> {
            SundayIsAPlace x = made.get();
            Due.text(x, text);
            return x;
        };
        Twins.refuseTo(fed, made, "land '" + text + "'", FIRST_FAULT - fault, -2, x -> x.land());
    }

    private static void faults(String text, int fault) {
        faults(TapeEdgesTest::pair, text, fault);
    }

    // ---- 14 and 15

    private static void feedsByte() {
        Twins.number(Scene::town, "feed", 0, 255, (x, v) -> x.feed(v));
    }

    private static void feedAnswersSize() {
        SundayIsAPlace x = Scene.bare();
        for (int size = 1; size <= 250; size++) {
            Due.is("feed", x.feed(size % 256), size);
        }
        Due.is("THE TAPE's size", x.status(6), 250);
    }

    private static void tapeIsFull() {
        for (int letter : new int[] {0, 32, 255}) {
            Twins.refuse(Scene::fullTape, "feed a full TAPE", -6, x -> x.feed(letter));
        }
    }

    private static void feedBadAheadOfFull() {
        for (int letter : new int[] {-1, 256, Integer.MIN_VALUE, Integer.MAX_VALUE}) {
            Twins.refuse(Scene::fullTape, "feed a full TAPE " + letter, -2, x -> x.feed(letter));
        }
    }

    private static void feedBehindWhatIsThere() {
        SundayIsAPlace x = Scene.bare();
        Due.text(x, "bac");
        x.feed(256);
        x.feed(-1);
        Due.text(x, "k 7");
        Due.is("land", x.land(), 1);
        Due.is("BACK", x.status(2), 7);
    }

    private static void roomAnew() {
        SundayIsAPlace x = Scene.fullTape();
        Due.is("wipe", x.wipe(), 250);
        Due.is("feed", x.feed('b'), 1);
        Due.is("land", x.land(), -20);
        SundayIsAPlace y = Scene.fullTape();
        Due.is("land", y.land(), 1);
        Due.is("feed", y.feed(255), 1);
        Due.is("size", y.status(6), 1);
    }

    private static void wipeTellsSizeAhead() {
        SundayIsAPlace x = Scene.bare();
        Due.is("wipe of an empty TAPE", x.wipe(), 0);
        x.feed(0);
        Due.is("wipe of one byte", x.wipe(), 1);
        Due.is("wipe again", x.wipe(), 0);
        Due.is("wipe of a full TAPE", Scene.fullTape().wipe(), 250);
        Due.is("nothing is refused", x.status(12) + x.status(14) + x.status(15), 0);
    }

    private static void wipedIsGone() {
        SundayIsAPlace x = Scene.bare();
        Due.text(x, "back 9");
        x.wipe();
        Due.is("THE TAPE is empty", x.land(), -20);
        Due.text(x, "back 9");
        x.wipe();
        Due.text(x, "back");
        Due.is("what was there is gone", x.land(), -24);
        Due.is("BACK", x.status(2), 2);
    }

    // ---- 16: the NUMBERS of each STATEMENT

    private static String with(String text, String number) {
        return text.replace("#", number);
    }

    /** A NUMBER (for which # stands) may be low to high; the next ones and what is no NUMBER are the FAULT. */
    private static void number(String text, int low, int high, Told told) {
        int place = text.indexOf('#');
        for (int v : new int[] {low, high}) {
            SundayIsAPlace x = pairAndTape(with(text, Integer.toString(v)));
            Due.is("land '" + text + "' by " + v, x.land(), 1);
            Due.is("'" + text + "' came to pass by " + v, told.is(x, v) ? 1 : 0, 1);
        }
        if (low > 0) {
            faults(with(text, Integer.toString(low - 1)), place);
        }
        String[] no = {Integer.toString(high + 1), "1000", "4294967297", "-1", "x", ";", "\n", "12345678901234567890"};
        for (String n : no) {
            faults(with(text, n), place);
        }
        faults(text.substring(0, place), place);
        faults(text.substring(0, place).trim(), text.substring(0, place).trim().length());
    }

    private static void threeDigits(String text, int low, int high) {
        int place = text.indexOf('#');
        String three = low + high > 99 ? "099" : low > 0 ? "001" : "000";
        reads(with(text, three), 1);
        faults(with(text, "0" + three), place);
        faults(with(text, "0000"), place);
    }

    private static void number(String words, String text, int low, int high, Told told) {
        Due.sentence("16: " + words + " (" + text + ")", () -> number(text, low, high, told));
        Due.sentence("16: a NUMBER that has more than 3 digits (" + text + ")", () -> threeDigits(text, low, high));
    }

    private static void numbersOfValleys() {
        number("fare V: 0 to 6", "fare # 8", 0, 6, (x, v) -> x.valleyOf(v, 0) == 8);
        number("fare N: 0 to 9", "fare 4 #", 0, 9, (x, v) -> x.valleyOf(4, 0) == v);
        number("hours V: 0 to 6", "hours # 8", 0, 6, (x, v) -> x.valleyOf(v, 1) == 8);
        number("hours N: 1 to 12", "hours 4 #", 1, 12, (x, v) -> x.valleyOf(4, 1) == v);
        number("pay V: 0 to 6", "pay # 8", 0, 6, (x, v) -> x.valleyOf(v, 2) == 8);
        number("pay N: 0 to 20", "pay 4 #", 0, 20, (x, v) -> x.valleyOf(4, 2) == v);
        number("back N: 0 to 9", "back #", 0, 9, (x, v) -> x.status(2) == v);
    }

    private static void numbersOfPasses() {
        number("pass P: 0 to 6", "pass # 3 4 5", 0, 6, (x, v) -> x.passOf(1, 0) == v);
        number("pass Q: 0 to 6", "pass 3 # 4 5", 0, 6, (x, v) -> x.passOf(1, 1) == v);
        number("pass F: 0 to 9", "pass 3 4 # 5", 0, 9, (x, v) -> x.passOf(1, 2) == v);
        number("pass H: 1 to 12", "pass 3 4 5 #", 1, 12, (x, v) -> x.passOf(1, 3) == v);
    }

    private static void numbersOfPeople() {
        number("person K: 0 to 5", "person # 3 4", 0, 5, (x, v) -> x.personOf(2, 0) == v);
        number("person A: 0 to 9", "person 3 # 4", 0, 9, (x, v) -> x.personOf(2, 1) == v);
        number("person V (HOME): 0 to 6", "person 3 4 #", 0, 6,
            (x, v) -> x.personOf(2, 2) == v && x.personOf(2, 3) == v);
        number("duty X: one of the PEOPLE", "duty # 3", 0, 1, (x, v) -> x.personOf(v, 4) == 8);
        number("duty V: 0 to 6", "duty 1 #", 0, 6, (x, v) -> x.personOf(1, 4) == 1 << v);
        number("at X: one of the PEOPLE", "at # 3", 0, 1, (x, v) -> x.personOf(v, 3) == 3 && x.personOf(v, 2) == 2);
        number("at V: 0 to 6", "at 1 #", 0, 6, (x, v) -> x.personOf(1, 3) == v && x.personOf(1, 2) == 2);
        number("purse X: one of the PEOPLE", "purse # 3", 0, 1, (x, v) -> x.personOf(v, 5) == 3);
        number("purse N: 0 to 999", "purse 1 #", 0, 999, (x, v) -> x.personOf(1, 5) == v);
    }

    // ---- 16: TOKENS

    private static void statementsAreOneOrMore() {
        faults("", 0);
        faults(" ", 1);
        faults("     ", 5);
        reads("back1", 1);
        reads("back1;back2", 2);
    }

    private static void fullOfStatements() {
        StringBuilder b = new StringBuilder("back 00");
        for (int i = 1; i <= 40; i++) {
            b.append(";back").append(i % 10);
        }
        reads(b.toString(), 41);
        SundayIsAPlace x = Scene.bare();
        Due.text(x, b.append("  ;").toString());
        Due.is("size", x.status(6), 250);
        Due.is("it ends too early behind 250 bytes", x.land(), -270);
        Due.is("BACK", x.status(2), 2);
        SundayIsAPlace y = Scene.bare();
        Due.text(y, b.substring(0, 249) + "9");
        Due.is("the last of 250 bytes can't stand there", y.land(), -269);
        SundayIsAPlace z = Scene.bare();
        Due.text(z, b.substring(0, 246) + "   9");
        Due.is("the last of 250 bytes counts", z.land(), 41);
        Due.is("BACK", z.status(2), 9);
    }

    private static void wordsAreAsLongAsCanBe() {
        faults("backa 1", 0);
        faults("aback 1", 0);
        faults("backback 1", 0);
        faults("ba 1", 0);
        faults("b", 0);
        faults("bac k 1", 0);
        faults("duty 1 1at 1 1", 8);
        reads("duty 1 1;at 1 1", 2);
    }

    private static void numbersAreAsLongAsCanBe() {
        faults("fare 12", 5);
        faults("fare12 ", 4);
        faults("fare 1 2 3", 9);
        faults("fare 1 23", 7);
        faults("purse 1 9999", 8);
        reads("fare1 2", 1);
    }

    private static void wordsAreOfAToZ() {
        faults("back`1", 4);
        faults("back{1", 4);
        faults("BACK 1", 0);
        faults("Back 1", 0);
        faults("bacK 1", 0);
        faults("back@1", 4);
        faults("ba\u00e4ck 1", 0);
        faults("a", 0);
        faults("z", 0);
        faults("back 1a", 6);
        faults("back 1z", 6);
        faults("back z", 5);
        faults("back a", 5);
        faults("backz 1", 0);
        faults("backa 1", 0);
    }

    private static void numbersAreOfDigits() {
        faults("back/1", 4);
        faults("back:1", 4);
        faults("back 1/", 6);
        faults("back 1:", 6);
        faults("back 0:", 6);
        reads("back 0", 1);
        reads("back 9", 1);
        faults("back +1", 5);
        faults("back -1", 5);
        faults("back \u00b2", 5);
        faults("back 0x1", 6);
    }

    private static void blanksMayStandAnywhere() {
        reads("   back   1   ;   fare   1   2   ", 2);
        reads("back 1 ;back 2", 2);
        reads("back 1; back 2", 2);
        faults("  back   10", 9);
        faults("   ;", 3);
    }

    private static void blanksNeedNotStand() {
        reads("back1", 1);
        reads("pass0 1 0 1;person0 0 0;duty0 0;at0 0;purse0 0", 5);
        faults("back1back2", 5);
    }

    private static void blanksAre32() {
        for (char no : new char[] {31, 33, 9, 10, 13, 160, 0}) {
            faults("back" + no + "1", 4);
            faults("back 1" + no, 6);
            faults(no + "back 1", 0);
        }
    }

    private static void byteThatBeginsNone() {
        for (int letter = 0; letter < 256; letter++) {
            boolean digit = letter >= '0' && letter <= '9';
            boolean small = letter >= 'a' && letter <= 'z';
            if (!digit && !small && letter != 32 && letter != ';') {
                SundayIsAPlace x = pairAndTape("back 7 ;");
                x.feed(letter);
                Due.is("byte " + letter, x.land(), -28);
                SundayIsAPlace y = pairAndTape("back 7");
                y.feed(letter);
                Due.is("byte " + letter + " at once behind", y.land(), -26);
            }
        }
    }

    private static void signBetween() {
        faults(";back 1", 0);
        faults("back 1;;back 2", 7);
        faults("back 1; ;back 2", 8);
        faults("back;1", 4);
        faults("back 1 back 2", 7);
        faults("back 1 2", 7);
        faults("fare;1 2", 4);
        faults("fare 1;2", 6);
        faults("back 1-back 2", 6);
    }

    private static void wordsOfStatements() {
        String[] words = {"fare 1 1", "hours 1 1", "pay 1 1", "back 1", "pass 1 2 1 1", "person 1 1 1", "duty 1 1",
            "at 1 1", "purse 1 1"};
        for (String w : words) {
            reads(w, 1);
            faults("x" + w, 0);
            faults(w.replace(" ", "x "), 0);
            faults(w.substring(1), 0);
            faults(w.replaceFirst(". ", " "), 0);
            faults(w.replaceFirst(". ", "q "), 0);
            faults("q" + w.substring(1), 0);
            faults("back 1;" + w.toUpperCase(), 7);
        }
        faults("tired 1 1", 0);
        faults("home 1 1", 0);
        faults("1", 0);
    }

    private static void endsTooEarly() {
        String[] texts = {"fare", "fare ", "fare 1", "fare 1  ", "hours 1", "pay 1", "back", "pass", "pass 1",
            "pass 1 2", "pass 1 2 3", "person", "person 1", "person 1 2", "duty", "duty 1", "at", "at 1", "purse",
            "purse 1", "back 1;", "back 1; "};
        for (String text : texts) {
            faults(text, text.length());
        }
    }

    // ---- 16: what there is room for, and all or nothing

    private static void qTheSameAsP() {
        for (int v = 0; v < 7; v++) {
            faults("pass " + v + " " + v + " 1 1", 7);
        }
        faults("pass 3 003 1 1", 7);
        faults("pass 03   3 1 1", 10);
        faults("pass 3 3", 7);
        reads("pass 3 2 3 3", 1);
    }

    private static void noRoomForPass() {
        faults(Scene::fullPasses, "pass 1 2 3 4", 0);
        faults(TapeEdgesTest::pair, "pass 1 2 3 4;pass 1 2 3 4;  pass 1 2 3 4", 28);
        reads("pass 1 2 3 4;pass 1 2 3 4", 2);
    }

    private static void noRoomForPerson() {
        faults(Scene::fullPeople, "person 1 2 3", 0);
        faults(TapeEdgesTest::pair, "person 1 2 3;person 1 2 3;person 1 2 3;person 1 2 3;person 1 2 3", 52);
        reads("person 1 2 3;person 1 2 3;person 1 2 3;person 1 2 3", 4);
    }

    private static void noRoomAheadOfTheNumbers() {
        faults(Scene::fullPasses, "back 1; pass 7 7 99 0", 8);
        faults(Scene::fullPasses, "pass", 0);
        faults(Scene::fullPasses, "pass x", 0);
        faults(Scene::fullPeople, "back 1; person 6 10 7", 8);
        faults(Scene::fullPeople, "person", 0);
        faults(Scene::fullPeople, "person;", 0);
    }

    private static void noRoomButForOthers() {
        SundayIsAPlace x = Scene.fullPasses();
        Due.is("one more of the PEOPLE", Due.land(x, "person 1 2 3;duty 0 5;back 3"), 3);
        SundayIsAPlace y = Scene.fullPeople();
        Due.is("one more PASS", Due.land(y, "pass 1 2 3 4;purse 5 999;at 5 6"), 3);
    }

    private static void nobodyToTellOf() {
        faults(Scene::bare, "duty 0 0", 5);
        faults(Scene::bare, "at 0 0", 3);
        faults(Scene::bare, "purse 0 0", 6);
        faults(Scene::bare, "duty 0 0;person 0 0 0", 5);
    }

    private static void oneOfTheSameText() {
        SundayIsAPlace x = pair();
        Due.is("land", Due.land(x, "person 1 2 3;duty 2 6;at 2 0;purse 2 999"), 4);
        int[] due = {1, 2, 3, 0, 64, 999, 0, 0};
        for (int what = 0; what < due.length; what++) {
            Due.is("personOf " + what, x.personOf(2, what), due[what]);
        }
        faults("person 1 2 3;duty 3 6", 18);
    }

    private static void firstFaultCounts() {
        faults("fare 7 10", 5);
        faults("back 10;fare 7 1", 5);
        faults("pass 7 7 10 0", 5);
        faults("pass 1 1 10 0", 7);
        faults("pass 1 2 10 0", 9);
        faults("pass 1 2 9 0", 11);
        faults("person 6 10 7", 7);
        faults("person 5 10 7", 9);
        faults("duty 2 7", 5);
    }

    private static void allOrNothing() {
        String nine = "fare 1 9;hours 1 9;pay 1 9;back 9;pass 1 2 9 9;person 1 2 3;duty 0 1;at 0 1;purse 0 1;";
        faults(nine + "x", nine.length());
        reads(nine + "duty 2 2", 10);
        faults("back 9;", 7);
        faults("person 1 2 3 4", 13);
    }

    private static void comesToWhatThereIs() {
        SundayIsAPlace x = pair();
        x.duty(0, 5, true);
        Due.is("land", Due.land(x, "duty 0 1;duty 0 1;back 4;back 5;person 0 0 0;pass 0 1 0 1"), 6);
        Due.is("DUTIES together", x.personOf(0, 4), 34);
        Due.is("what is told last", x.status(2), 5);
        Due.is("PEOPLE", x.status(0), 3);
        Due.is("PASSES", x.status(1), 2);
        Due.is("FARE as it was", x.valleyOf(0, 0), 1);
    }

    private static void tapeIsEmptyEitherWay() {
        SundayIsAPlace x = pair();
        Due.is("land", Due.land(x, "back 3"), 1);
        Due.is("size", x.status(6), 0);
        Due.is("no more there", x.land(), -20);
        Due.is("a FAULT", Due.land(x, "back x"), -25);
        Due.is("size", x.status(6), 0);
        Due.is("no more there", x.land(), -20);
    }

    private static void landCountsBad() {
        SundayIsAPlace x = pair();
        for (int times = 1; times <= 3; times++) {
            x.land();
            Due.is("BAD", x.status(12), times);
        }
        Due.is("the other REFUSALS", x.status(13) + x.status(14) + x.status(15) + x.status(16), 0);
    }

    private static void landIsNoAct() {
        SundayIsAPlace x = pair();
        Due.land(x, "at 0 6;purse 0 999;duty 0 1");
        Due.is("acts", x.status(5), 0);
        Due.is("AGE", x.personOf(0, 7), 0);
        Due.is("TIRED", x.personOf(0, 6), 0);
        Due.is("SEED", x.status(7), 1);
    }

    private static void feeds() {
        Due.sentence("14: one byte (0 to 255)", TapeEdgesTest::feedsByte);
        Due.sentence("14: its size", TapeEdgesTest::feedAnswersSize);
        Due.sentence("14: bytes, 250 at most; FULL", TapeEdgesTest::tapeIsFull);
        Due.sentence("14: BAD; FULL: in this order", TapeEdgesTest::feedBadAheadOfFull);
        Due.sentence("14: behind it", TapeEdgesTest::feedBehindWhatIsThere);
        Due.sentence("14: FULL no more", TapeEdgesTest::roomAnew);
        Due.sentence("15: its size ahead", TapeEdgesTest::wipeTellsSizeAhead);
        Due.sentence("15: THE TAPE is empty", TapeEdgesTest::wipedIsGone);
    }

    private static void tokens() {
        Due.sentence("16: STATEMENTS, one or more", TapeEdgesTest::statementsAreOneOrMore);
        Due.sentence("16: how many STATEMENTS, on a TAPE that is full", TapeEdgesTest::fullOfStatements);
        Due.sentence("16: TOKENS as long as can be (WORDS)", TapeEdgesTest::wordsAreAsLongAsCanBe);
        Due.sentence("16: TOKENS as long as can be (NUMBERS)", TapeEdgesTest::numbersAreAsLongAsCanBe);
        Due.sentence("16: WORDS (a .. z)", TapeEdgesTest::wordsAreOfAToZ);
        Due.sentence("16: NUMBERS (digits)", TapeEdgesTest::numbersAreOfDigits);
        Due.sentence("16: blanks may stand anywhere between", TapeEdgesTest::blanksMayStandAnywhere);
        Due.sentence("16: blanks may be left out", TapeEdgesTest::blanksNeedNotStand);
        Due.sentence("16: blanks (32)", TapeEdgesTest::blanksAre32);
        Due.sentence("16: a byte that begins none", TapeEdgesTest::byteThatBeginsNone);
        Due.sentence("16: with ; between", TapeEdgesTest::signBetween);
        Due.sentence("16: fare, hours, pay, back, pass, person, duty, at, purse", TapeEdgesTest::wordsOfStatements);
        Due.sentence("16: THE TAPE's size, if it ends too early", TapeEdgesTest::endsTooEarly);
    }

    private static void allTogether() {
        Due.sentence("16: Q the same as P: Q", TapeEdgesTest::qTheSameAsP);
        Due.sentence("16: what there is no room for: its word (pass)", TapeEdgesTest::noRoomForPass);
        Due.sentence("16: what there is no room for: its word (person)", TapeEdgesTest::noRoomForPerson);
        Due.sentence("16: the first TOKEN: no room, ahead of its NUMBERS", TapeEdgesTest::noRoomAheadOfTheNumbers);
        Due.sentence("16: what there is room for", TapeEdgesTest::noRoomButForOthers);
        Due.sentence("16: a NUMBER that may not be (nobody)", TapeEdgesTest::nobodyToTellOf);
        Due.sentence("16: a NUMBER that may not be (one of the same text)", TapeEdgesTest::oneOfTheSameText);
        Due.sentence("16: the first TOKEN that can't stand there", TapeEdgesTest::firstFaultCounts);
        Due.sentence("16: all, or nothing", TapeEdgesTest::allOrNothing);
        Due.sentence("16: All comes to what there is", TapeEdgesTest::comesToWhatThereIs);
        Due.sentence("16: THE TAPE is empty then, either way", TapeEdgesTest::tapeIsEmptyEitherWay);
        Due.sentence("16: -20 less the FAULT (that is refused, too: BAD)", TapeEdgesTest::landCountsBad);
        Due.sentence("16: how many STATEMENTS (no acts)", TapeEdgesTest::landIsNoAct);
    }

    public static void main(String[] args) {
        feeds();
        numbersOfValleys();
        numbersOfPasses();
        numbersOfPeople();
        tokens();
        allTogether();
        Due.end("TapeEdgesTest");
    }
}
