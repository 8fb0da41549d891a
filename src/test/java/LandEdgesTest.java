/** Promises 9 to 13 and 17 to 19, VALLEYS, PASSES and PEOPLE: each sentence that names an edge has its own test. */
public final class LandEdgesTest {
    private static void everywhere(int what, int due) {
        for (int v = 0; v < 7; v++) {
            Due.is("fact " + what + " of VALLEY " + v, Scene.bare().valleyOf(v, what), due);
        }
    }

    // ---- 9

    private static void asksValley(int what) {
        Twins.number(Scene::town, "ask " + what + ", valley", 0, 6, (x, v) -> x.ask(v, what, 1));
    }

    /** Each number that may be is what the next call answers, and what is told of that VALLEY alone. */
    private static void asksNumber(int what, int low, int high) {
        Twins.number(Scene::town, "ask " + what + ", v", low, high, (x, v) -> x.ask(3, what, v));
        SundayIsAPlace x = Scene.bare();
        int was = x.valleyOf(3, what);
        int others = x.valleyOf(2, what);
        for (int v = low; v <= high; v++) {
            Due.is("what it was", x.ask(3, what, v), was);
            Due.is("what it is", x.valleyOf(3, what), v);
            was = v;
        }
        Due.is("the VALLEY ahead", x.valleyOf(2, what), others);
        Due.is("the VALLEY behind", x.valleyOf(4, what), others);
    }

    private static void asksBack() {
        Twins.number(Scene::town, "ask BACK, v", 0, 9, (x, v) -> x.ask(0, 3, v));
        SundayIsAPlace x = Scene.bare();
        int was = 2;
        for (int v = 0; v <= 9; v++) {
            Due.is("what it was", x.ask(0, 3, v), was);
            Due.is("BACK", x.status(2), v);
            was = v;
        }
    }

    private static void asksBackOfValley0() {
        Twins.number(Scene::town, "ask BACK, valley", 0, 0, (x, v) -> x.ask(v, 3, 5));
        for (int valley = 1; valley < 8; valley++) {
            int v = valley;
            Twins.refuse(Scene::town, "ask BACK of " + v, -2, x -> x.ask(v, 3, 5));
        }
    }

    private static void asksFirstAndLastValley() {
        SundayIsAPlace x = Scene.bare();
        for (int what = 0; what < 3; what++) {
            x.ask(0, what, 7);
            x.ask(6, what, 8);
            for (int v = 1; v < 6; v++) {
                Due.is("another VALLEY", x.valleyOf(v, what), Scene.bare().valleyOf(v, what));
            }
            Due.is("the first", x.valleyOf(0, what), 7);
            Due.is("the last", x.valleyOf(6, what), 8);
        }
        Due.is("BACK", x.status(2), 2);
    }

    private static void payOfSundayCountsNothing() {
        SundayIsAPlace x = Scene.bare();
        x.person(0, 0, 6);
        Due.is("PAY of Sunday may be asked", x.ask(6, 2, 20), 4);
        Due.is("and is told", x.valleyOf(6, 2), 20);
        Due.is("WORK", x.act(0, 8), -5);
        Due.is("LONGEST", x.longest(0), 0);
        x.duty(0, 3, true);
        x.tell(0, 1, 0);
        Due.is("works", x.works(0), -1);
    }

    // ---- 10

    private static void passesFrom() {
        Twins.number(Scene::town, "pass, from", 0, 6, (x, v) -> x.pass(v, 3, 1, 1));
    }

    private static void passesTo() {
        Twins.number(Scene::town, "pass, to", 0, 6, (x, v) -> x.pass(3, v, 1, 1));
    }

    private static void passesFare() {
        Twins.number(Scene::town, "pass, FARE", 0, 9, (x, v) -> x.pass(1, 2, v, 1));
    }

    private static void passesHours() {
        Twins.number(Scene::town, "pass, HOURS", 1, 12, (x, v) -> x.pass(1, 2, 1, v));
    }

    private static void passToTheSame() {
        for (int valley = 0; valley < 7; valley++) {
            int v = valley;
            Twins.refuse(Scene::town, "from " + v + " to " + v, -2, x -> x.pass(v, v, 1, 1));
        }
    }

    private static void passNumbers() {
        SundayIsAPlace x = Scene.bare();
        for (int pass = 0; pass < 3; pass++) {
            Due.is("PASSES", x.status(1), pass);
            Due.is("the number", x.pass(2, 5, pass, 1 + pass), pass);
            int[] due = {2, 5, pass, 1 + pass};
            for (int what = 0; what < 4; what++) {
                Due.is("passOf", x.passOf(pass, what), due[what]);
            }
        }
        Due.is("PASSES", x.status(1), 3);
    }

    private static void passesAreFull() {
        Twins.refuse(Scene::fullTown, "a fourth PASS", -6, x -> x.pass(1, 2, 3, 4));
    }

    private static void passBadAheadOfFull() {
        for (int[] b : new int[][] {{-1, 2, 3, 4}, {7, 2, 3, 4}, {1, -1, 3, 4}, {1, 7, 3, 4}, {2, 2, 3, 4},
                {1, 2, -1, 4}, {1, 2, 10, 4}, {1, 2, 3, 0}, {1, 2, 3, 13}}) {
            Twins.refuse(Scene::fullTown, "a bad fourth PASS", -2, x -> x.pass(b[0], b[1], b[2], b[3]));
        }
    }

    private static void passIsOneWay() {
        SundayIsAPlace x = Scene.bare();
        x.person(0, 0, 4);
        x.pass(1, 4, 0, 1);
        Due.is("PRICE there", x.price(0, 1, 2), 0);
        Due.is("PRICE back", x.price(0, 4, 2), -5);
        Due.is("the act back", x.act(0, 2), -5);
        Due.is("STEPS back", x.steps(0, 1), 3);
        Due.is("JOURNEYS back", journeys(x, 4, 1), 0);
        Due.is("JOURNEYS there", journeys(x, 1, 4), 1);
    }

    private static int journeys(SundayIsAPlace x, int from, int to) {
        Scene.fill(x, 0, 0, to);
        return x.journeys(0, 1, from, 0);
    }

    // ---- 11

    private static void personsKind() {
        Twins.number(Scene::town, "person, KIND", 0, 5, (x, v) -> x.person(v, 1, 1));
    }

    private static void personsA() {
        Twins.number(Scene::town, "person, a", 0, 9, (x, v) -> x.person(1, v, 1));
    }

    private static void personsHome() {
        Twins.number(Scene::town, "person, HOME", 0, 6, (x, v) -> x.person(1, 1, v));
    }

    private static void personNumbers() {
        SundayIsAPlace x = Scene.bare();
        for (int person = 0; person < 6; person++) {
            Due.is("PEOPLE", x.status(0), person);
            Due.is("the number", x.person(person, 9, 6 - person), person);
        }
        Due.is("PEOPLE", x.status(0), 6);
    }

    private static void peopleAreFull() {
        Twins.refuse(Scene::fullTown, "a seventh", -6, x -> x.person(1, 2, 3));
    }

    private static void personBadAheadOfFull() {
        for (int[] b : new int[][] {{-1, 2, 3}, {6, 2, 3}, {1, -1, 3}, {1, 10, 3}, {1, 2, -1}, {1, 2, 7}}) {
            Twins.refuse(Scene::fullTown, "a bad seventh", -2, x -> x.person(b[0], b[1], b[2]));
        }
    }

    /** One of whom the sentence tells a number at first, also where another had that number ahead of back. */
    private static void atFirst(int what, int due) {
        SundayIsAPlace x = Scene.bare();
        x.image();
        Due.is("person", x.person(4, 3, 5), 0);
        Due.is("fact " + what, x.personOf(0, what), due);
        x.ask(5, 0, 0);
        x.tell(0, 2, 7);
        Scene.fill(x, 0, 0, 0, 0);
        Due.is("done", x.done(0, 2, 0), 0);
        x.duty(0, 2, true);
        x.tell(0, 1, 500);
        x.back();
        Due.is("person anew", x.person(4, 3, 5), 0);
        Due.is("fact " + what + " anew", x.personOf(0, what), due);
    }

    private static void homeAtFirst() {
        for (int home = 0; home < 7; home += 6) {
            SundayIsAPlace x = Scene.bare();
            x.person(2, 0, home);
            Due.is("HOME", x.personOf(0, 2), home);
            Due.is("AT", x.personOf(0, 3), home);
            x.tell(0, 3, 3);
            Due.is("AT stays where it is", x.personOf(0, 3), home);
        }
    }

    // ---- 12

    private static void dutysPerson() {
        Twins.number(Scene::town, "duty, person", 0, 1, (x, v) -> x.duty(v, 2, true));
        Twins.number(Scene::town, "no duty, person", 0, 1, (x, v) -> x.duty(v, 2, false));
        Twins.refuse(Scene::bare, "duty of nobody", -2, x -> x.duty(0, 2, true));
    }

    private static void dutysValley() {
        Twins.number(Scene::town, "duty, valley", 0, 6, (x, v) -> x.duty(0, v, true));
        Twins.number(Scene::town, "no duty, valley", 0, 6, (x, v) -> x.duty(0, v, false));
        Twins.refuse(Scene::town, "bits that wrap around", -2, x -> x.duty(0, 32, true));
        Twins.refuse(Scene::town, "bits that wrap around", -2, x -> x.duty(0, 35, false));
    }

    private static void dutyTellsWhetherItWas() {
        SundayIsAPlace x = Scene.bare();
        x.person(0, 0, 0);
        x.person(0, 0, 0);
        for (int v = 0; v < 7; v++) {
            Due.is("it was none", x.duty(1, v, true), 0);
            Due.is("it was one", x.duty(1, v, true), 1);
            Due.is("DUTY", x.personOf(1, 4), (2 << v) - 1);
        }
        for (int v = 0; v < 7; v++) {
            Due.is("it was one", x.duty(1, v, false), 1);
            Due.is("it was none", x.duty(1, v, false), 0);
            Due.is("DUTY", x.personOf(1, 4), 127 & -(2 << v));
        }
        Due.is("DUTY of another", x.personOf(0, 4), 0);
    }

    // ---- 13

    private static void tells(int what, int fact, int high) {
        Twins.number(Scene::town, "tell " + what + ", v", 0, high, (x, v) -> x.tell(1, what, v));
        SundayIsAPlace x = Scene.fullTown();
        int was = x.personOf(5, fact);
        for (int v : new int[] {0, 1, high - 1, high}) {
            Due.is("what it was", x.tell(5, what, v), was);
            Due.is("what it is", x.personOf(5, fact), v);
            was = v;
        }
        Due.is("that of another", x.personOf(4, fact), Scene.fullTown().personOf(4, fact));
    }

    private static void tellsPerson() {
        for (int what = 0; what < 4; what++) {
            int w = what;
            Twins.number(Scene::town, "tell " + w + ", person", 0, 1, (x, v) -> x.tell(v, w, 2));
            Twins.refuse(Scene::bare, "tell nobody", -2, x -> x.tell(0, w, 2));
        }
    }

    // ---- 17 to 19

    private static void valleyOfHowManyPeople() {
        SundayIsAPlace x = Scene.bare();
        for (int person = 0; person < 6; person++) {
            Due.is("PEOPLE AT the first VALLEY", x.valleyOf(0, 3), person);
            x.person(0, 0, 0);
        }
        for (int person = 0; person < 6; person++) {
            Due.is("PEOPLE AT the first VALLEY", x.valleyOf(0, 3), 6 - person);
            Due.is("PEOPLE AT the last VALLEY", x.valleyOf(6, 3), person);
            x.tell(person, 0, 6);
        }
        Due.is("PEOPLE whose HOME it is don't count", x.valleyOf(0, 3), 0);
        Due.is("PEOPLE AT the last VALLEY", x.valleyOf(6, 3), 6);
    }

    private static void passOfNoPass() {
        Twins.refuse(Scene::bare, "passOf without a PASS", -2, x -> x.passOf(0, 0));
        Twins.refuse(Scene::bare, "passOf the last without a PASS", -2, x -> x.passOf(2, 0));
        Twins.number(Scene::town, "passOf, one PASS", 0, 0, (x, v) -> x.passOf(v, 0));
        Twins.refuse(Scene::town, "passOf the third of one", -2, x -> x.passOf(2, 0));
        Twins.number(Scene::fullTown, "passOf, three PASSES", 0, 2, (x, v) -> x.passOf(v, 3));
    }

    private static void personOfNobody() {
        Twins.refuse(Scene::bare, "personOf nobody", -2, x -> x.personOf(0, 0));
        Twins.refuse(Scene::town, "personOf the sixth of two", -2, x -> x.personOf(5, 0));
        Twins.number(Scene::town, "personOf, two", 0, 1, (x, v) -> x.personOf(v, 0));
        Twins.number(Scene::fullTown, "personOf, six", 0, 5, (x, v) -> x.personOf(v, 7));
    }

    private static void facts() {
        SundayIsAPlace x = Scene.fullTown();
        int[] one = {4, 2, 4, 5, 2, 20, 3, 0};
        for (int what = 0; what < one.length; what++) {
            int w = what;
            Due.is("personOf " + what, x.personOf(1, what), one[what]);
            Twins.keep(Scene::town, "personOf " + what, one[what], y -> y.personOf(1, w));
        }
        int[] pass = {6, 2, 9, 12};
        for (int what = 0; what < pass.length; what++) {
            Due.is("passOf " + what, x.passOf(2, what), pass[what]);
        }
    }

    private static void asks() {
        Due.sentence("9: FARE 1 at first", () -> everywhere(0, 1));
        Due.sentence("9: HOURS 3 at first", () -> everywhere(1, 3));
        Due.sentence("9: PAY 4 at first", () -> everywhere(2, 4));
        Due.sentence("9: BACK 2 at first", () -> Due.is("BACK", Scene.bare().status(2), 2));
        Due.sentence("9: VALLEYS 0 to 6 (FARE)", () -> asksValley(0));
        Due.sentence("9: VALLEYS 0 to 6 (HOURS)", () -> asksValley(1));
        Due.sentence("9: VALLEYS 0 to 6 (PAY)", () -> asksValley(2));
        Due.sentence("9: FARE (0 to 9)", () -> asksNumber(0, 0, 9));
        Due.sentence("9: HOURS (1 to 12)", () -> asksNumber(1, 1, 12));
        Due.sentence("9: PAY (0 to 20)", () -> asksNumber(2, 0, 20));
        Due.sentence("9: BACK (0 to 9)", LandEdgesTest::asksBack);
        Due.sentence("9: BACK (3; valley 0)", LandEdgesTest::asksBackOfValley0);
        Due.sentence("9: BAD (what)",
            () -> Twins.number(Scene::town, "ask, what", 0, 3, (x, v) -> x.ask(0, v, 5)));
        Due.sentence("9: of a VALLEY", LandEdgesTest::asksFirstAndLastValley);
        Due.sentence("9: PAY of Sunday counts nothing", LandEdgesTest::payOfSundayCountsNothing);
    }

    private static void passes() {
        Due.sentence("10: PASSES from a VALLEY", LandEdgesTest::passesFrom);
        Due.sentence("10: to another", LandEdgesTest::passesTo);
        Due.sentence("10: FARE (0 to 9)", LandEdgesTest::passesFare);
        Due.sentence("10: HOURS (1 to 12)", LandEdgesTest::passesHours);
        Due.sentence("10: BAD: also from and to the same", LandEdgesTest::passToTheSame);
        Due.sentence("10: PASSES have numbers, 0 on", LandEdgesTest::passNumbers);
        Due.sentence("10: PASSES, 3 at most; FULL", LandEdgesTest::passesAreFull);
        Due.sentence("10: BAD; FULL: in this order", LandEdgesTest::passBadAheadOfFull);
        Due.sentence("10: (one way)", LandEdgesTest::passIsOneWay);
    }

    private static void people() {
        Due.sentence("11: each of a KIND: 0 .. 5", LandEdgesTest::personsKind);
        Due.sentence("11: a (0 to 9)", LandEdgesTest::personsA);
        Due.sentence("11: HOME (a VALLEY)", LandEdgesTest::personsHome);
        Due.sentence("11: PEOPLE have numbers, 0 on", LandEdgesTest::personNumbers);
        Due.sentence("11: PEOPLE, 6 at most; FULL", LandEdgesTest::peopleAreFull);
        Due.sentence("11: BAD; FULL: in this order", LandEdgesTest::personBadAheadOfFull);
        Due.sentence("11: AT (HOME at first)", LandEdgesTest::homeAtFirst);
        Due.sentence("11: AT (HOME at first), anew", () -> atFirst(3, 5));
        Due.sentence("11: DUTY none at first", () -> atFirst(4, 0));
        Due.sentence("11: PURSE 20 at first", () -> atFirst(5, 20));
        Due.sentence("11: TIRED 0 at first", () -> atFirst(6, 0));
        Due.sentence("11: AGE 0 at first", () -> atFirst(7, 0));
        Due.sentence("12: BAD (person)", LandEdgesTest::dutysPerson);
        Due.sentence("12: BAD (valley)", LandEdgesTest::dutysValley);
        Due.sentence("12: whether it was (1, 0)", LandEdgesTest::dutyTellsWhetherItWas);
        Due.sentence("13: AT (a VALLEY)", () -> tells(0, 3, 6));
        Due.sentence("13: PURSE (0 to 999)", () -> tells(1, 5, 999));
        Due.sentence("13: TIRED (0 to 20)", () -> tells(2, 6, 20));
        Due.sentence("13: HOME (a VALLEY)", () -> tells(3, 2, 6));
        Due.sentence("13: BAD (person)", LandEdgesTest::tellsPerson);
        Due.sentence("13: BAD (what)",
            () -> Twins.number(Scene::town, "tell, what", 0, 3, (x, v) -> x.tell(0, v, 1)));
    }

    private static void whatIsTold() {
        Due.sentence("17: BAD (valley)",
            () -> Twins.number(Scene::town, "valleyOf, valley", 0, 6, (x, v) -> x.valleyOf(v, 3)));
        Due.sentence("17: BAD (what)",
            () -> Twins.number(Scene::town, "valleyOf, what", 0, 3, (x, v) -> x.valleyOf(0, v)));
        Due.sentence("17: how many PEOPLE are AT it", LandEdgesTest::valleyOfHowManyPeople);
        Due.sentence("18: BAD (pass)", LandEdgesTest::passOfNoPass);
        Due.sentence("18: BAD (what)",
            () -> Twins.number(Scene::town, "passOf, what", 0, 3, (x, v) -> x.passOf(0, v)));
        Due.sentence("19: BAD (person)", LandEdgesTest::personOfNobody);
        Due.sentence("19: BAD (what)",
            () -> Twins.number(Scene::town, "personOf, what", 0, 7, (x, v) -> x.personOf(0, v)));
        Due.sentence("18, 19: of a PASS, of one of the PEOPLE", LandEdgesTest::facts);
    }

    public static void main(String[] args) {
        asks();
        passes();
        people();
        whatIsTold();
        Due.end("LandEdgesTest");
    }
}
