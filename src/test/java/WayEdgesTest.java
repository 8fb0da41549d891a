import java.util.function.Supplier;
import java.util.function.ToLongFunction;

/** Promises 20 to 37, ways, TOURS and what comes of them: each sentence that names an edge has a test of its own. */
public final class WayEdgesTest {
    private static final int MAX = Integer.MAX_VALUE;
    private static final int MIN = Integer.MIN_VALUE;

    /** One of a KIND in a land where FARE of VALLEY v is v + 1, BACK 9, HOURS of v are v + 3. */
    private static SundayIsAPlace one(int kind, int a) {
        SundayIsAPlace x = Scene.bare();
        x.ask(0, 3, 9);
        for (int v = 0; v < 7; v++) {
            x.ask(v, 0, v + 1);
            x.ask(v, 1, v + 3);
        }
        x.person(kind, a, 0);
        return x;
    }

    private static SundayIsAPlace lone() {
        SundayIsAPlace x = Scene.bare();
        x.person(0, 0, 0);
        return x;
    }

    /** Nothing costs anything. */
    private static SundayIsAPlace free() {
        SundayIsAPlace x = lone();
        x.ask(0, 3, 0);
        for (int v = 0; v < 7; v++) {
            x.ask(v, 0, 0);
        }
        return x;
    }

    private static void ofPerson(String call, Twins.Asked asked) {
        Twins.number(Scene::town, call + ", person", 0, 1, asked);
        Twins.number(Scene::fullTown, call + ", person of six", 0, 5, asked);
        Twins.refuse(Scene::bare, call + " of nobody", -2, x -> asked.of(x, 0));
    }

    private static void ofValley(String call, Twins.Asked asked) {
        Twins.number(Scene::town, call + ", valley", 0, 6, asked);
    }

    private static void refuse(String call, int want, ToLongFunction<SundayIsAPlace> asked) {
        Twins.refuse(Scene::town, call, want, asked);
    }

    private static void everyValley(Supplier<SundayIsAPlace> made, String call, Twins.Asked asked, int... due) {
        for (int v = 0; v < 7; v++) {
            int valley = v;
            Twins.keep(made, call + " " + v, due[v], x -> asked.of(x, valley));
        }
    }

    // ---- 20

    private static void forwardRoundTheRing() {
        everyValley(() -> one(0, 5), "PRICE FORWARD from", (x, v) -> x.price(0, v, 0), 1, 2, 3, 4, 5, 6, 7);
    }

    private static void backRoundTheRing() {
        everyValley(() -> one(0, 5), "PRICE BACK from", (x, v) -> x.price(0, v, 1), 16, 10, 11, 12, 13, 14, 15);
    }

    /** FORWARD, BACK and a PASS from 0 where FARE is what is told, BACK 9 and the PASS 9. */
    private static void prices(int kind, int a, int fare, int... due) {
        SundayIsAPlace x = one(kind, a);
        x.ask(0, 0, fare);
        x.ask(6, 0, fare);
        x.pass(0, 4, 9, 1);
        for (int step = 0; step < 3; step++) {
            Due.is("PRICE for KIND " + kind + ", a " + a + ", step " + step, x.price(0, 0, step), due[step]);
        }
    }

    private static void personsPrice() {
        prices(0, 9, 0, 0, 9, 9);
        prices(0, 9, 9, 9, 18, 9);
    }

    private static void clerksHalf() {
        prices(1, 9, 9, 4, 9, 4);
        prices(1, 9, 1, 0, 5, 4);
        prices(1, 9, 0, 0, 4, 4);
        prices(1, 9, 2, 1, 5, 4);
    }

    private static void priestsLess() {
        prices(3, 0, 9, 4, 9, 4);
        prices(3, 3, 9, 1, 6, 1);
        prices(3, 4, 9, 0, 5, 0);
        prices(3, 5, 9, 0, 4, 0);
        prices(3, 9, 9, 0, 0, 0);
        prices(3, 9, 0, 0, 0, 0);
    }

    private static void restlessMore() {
        prices(2, 0, 0, 0, 9, 9);
        prices(2, 9, 9, 18, 27, 18);
    }

    private static void smugglersNothing() {
        prices(4, 0, 0, 0, 9, 0);
        prices(4, 9, 9, 18, 27, 0);
    }

    private static void strangersTwice() {
        prices(5, 9, 0, 0, 18, 18);
        prices(5, 9, 9, 18, 36, 18);
    }

    private static void priceOfNoPass() {
        refuse("a PASS that begins elsewhere", -5, x -> x.price(0, 1, 2));
        refuse("where the PASS ends", -5, x -> x.price(0, 3, 2));
        refuse("no such PASS", -5, x -> x.price(0, 0, 3));
        refuse("no such PASS", -5, x -> x.price(0, 0, 4));
        Twins.refuse(WayEdgesTest::lone, "no PASS", -5, x -> x.price(0, 0, 2));
        Twins.keep(Scene::fullTown, "PASS 2", 9, x -> x.price(0, 6, 4));
        Twins.keep(Scene::fullTown, "PASS 1", 0, x -> x.price(0, 5, 3));
        Twins.keep(Scene::fullTown, "PASS 0", 2, x -> x.price(0, 0, 2));
        Twins.refuse(Scene::fullTown, "PASS 1 begins elsewhere", -5, x -> x.price(0, 6, 3));
    }

    private static void priceBadAheadOfStuck() {
        refuse("nobody, no PASS", -2, x -> x.price(2, 1, 2));
        refuse("no VALLEY, no PASS", -2, x -> x.price(0, 7, 2));
        refuse("no VALLEY, no PASS", -2, x -> x.price(0, -1, 4));
        Twins.refuse(Scene::bare, "nobody, no PASS", -2, x -> x.price(0, 0, 2));
    }

    // ---- 21

    private static void cheapestRoundTheRing() {
        everyValley(() -> one(0, 0), "CHEAPEST to", (x, v) -> x.way(0, v, 0), 0, 1, 3, 6, 10, 15, 16);
        everyValley(WayEdgesTest::lone, "CHEAPEST to", (x, v) -> x.way(0, v, 0), 0, 1, 2, 3, 4, 5, 3);
    }

    private static void quickestRoundTheRing() {
        everyValley(() -> one(5, 9), "QUICKEST to", (x, v) -> x.way(0, v, 1), 0, 3, 7, 12, 18, 17, 9);
    }

    private static void backHasTheSameHours() {
        SundayIsAPlace x = lone();
        x.ask(6, 1, 12);
        Due.is("HOURS BACK from 0", x.way(0, 6, 1), 12);
        x.ask(6, 1, 1);
        x.ask(0, 1, 12);
        Due.is("HOURS BACK from 0", x.way(0, 6, 1), 1);
        x.tell(0, 0, 1);
        Due.is("HOURS BACK from 1", x.way(0, 0, 1), 12);
    }

    private static void youngest() {
        everyValley(() -> one(2, 9), "YOUNGEST to", (x, v) -> x.way(0, v, 2), 0, 0, 0, 0, 0, 0, 0);
    }

    /** By each what there is no way to where one is AT but none, and none costs nothing. */
    private static void wayToWhereOneIs() {
        for (int v = 0; v < 7; v++) {
            for (int what = 0; what < 3; what++) {
                SundayIsAPlace x = one(2, 9);
                x.tell(0, 0, v);
                Due.is("way to where one is AT", x.way(0, v, what), 0);
            }
        }
    }

    private static void waysByPasses() {
        SundayIsAPlace x = one(0, 0);
        x.pass(0, 5, 9, 12);
        Due.is("CHEAPEST by the PASS", x.way(0, 5, 0), 9);
        Due.is("QUICKEST without it", x.way(0, 5, 1), 12);
        Due.is("CHEAPEST to the next", x.way(0, 6, 0), 15);
        x.pass(0, 5, 8, 1);
        Due.is("CHEAPEST by another PASS", x.way(0, 5, 0), 8);
        Due.is("QUICKEST by another PASS", x.way(0, 5, 1), 1);
        x.pass(1, 0, 0, 1);
        x.tell(0, 0, 1);
        Due.is("CHEAPEST by two PASSES", x.way(0, 5, 0), 8);
        x.tell(0, 0, 5);
        Due.is("CHEAPEST, one way", x.way(0, 0, 0), 13);
    }

    private static void dearWays() {
        SundayIsAPlace x = Scene.bare();
        x.ask(0, 3, 9);
        for (int v = 0; v < 7; v++) {
            x.ask(v, 0, 9);
            x.ask(v, 1, 12);
        }
        x.person(2, 9, 0);
        x.person(5, 0, 0);
        Due.is("CHEAPEST of a RESTLESS", x.way(0, 4, 0), 72);
        Due.is("CHEAPEST of a STRANGER", x.way(1, 4, 0), 72);
        Due.is("CHEAPEST BACK", x.way(0, 5, 0), 54);
        Due.is("CHEAPEST BACK", x.way(1, 5, 0), 72);
        Due.is("QUICKEST", x.way(0, 3, 1), 36);
    }

    private static SundayIsAPlace poorAndTired() {
        SundayIsAPlace x = one(0, 0);
        x.tell(0, 1, 0);
        x.tell(0, 2, 20);
        x.duty(0, 2, true);
        return x;
    }

    private static void purseAndTiredAside() {
        Supplier<SundayIsAPlace> made = WayEdgesTest::poorAndTired;
        Twins.keep(made, "CHEAPEST", 3, x -> x.way(0, 2, 0));
        Twins.keep(made, "QUICKEST", 7, x -> x.way(0, 2, 1));
        Twins.keep(made, "TOUR", 24, x -> x.tour(0, 0));
        Twins.keep(made, "route", 2, x -> x.route(0, 2, -1));
        Twins.keep(made, "tourOf", 1, x -> x.tourOf(0, -1));
        Twins.keep(made, "works", 6, x -> x.works(0));
        Twins.keep(made, "steps", 2, x -> x.steps(0, 2));
        Twins.keep(made, "within", 7, x -> x.within(0, 3, 1));
        Twins.keep(made, "homes", 0, x -> x.homes(-1));
        Twins.keep(made, "market", 0, x -> x.market());
        Twins.keep(made, "meet", 0, x -> x.meet(0));
        Twins.keep(made, "dearest", 1, x -> x.dearest(0));
        Twins.keep(made, "ring", 28, x -> x.ring(0));
    }

    // ---- 22

    private static void tourOfNoDuty() {
        Twins.keep(WayEdgesTest::lone, "TOUR AT HOME", 0, x -> x.tour(0, 0));
        SundayIsAPlace x = lone();
        x.tell(0, 3, 6);
        Due.is("HOME at last", x.tour(0, 0), 3);
    }

    private static void atCounts() {
        for (int v = 0; v < 7; v++) {
            SundayIsAPlace x = Scene.bare();
            x.person(0, 0, v);
            x.duty(0, v, true);
            Due.is("TOUR, DUTY where one is AT", x.tour(0, 0), 0);
            x.tell(0, 3, (v + 2) % 7);
            Due.is("TOUR, HOME further on", x.tour(0, 0), 2);
        }
    }

    private static void tourOfAll() {
        SundayIsAPlace x = lone();
        for (int v = 0; v < 7; v++) {
            x.duty(0, v, true);
        }
        Due.is("TOUR of all seven", x.tour(0, 0), 7);
        x.tell(0, 3, 6);
        Due.is("TOUR of all seven, HOME at last", x.tour(0, 0), 6);
        x.tell(0, 3, 5);
        Due.is("TOUR of all seven, HOME ahead of the last", x.tour(0, 0), 9);
    }

    private static void dearestTour() {
        SundayIsAPlace x = Scene.bare();
        x.ask(0, 3, 9);
        for (int v = 0; v < 7; v++) {
            x.ask(v, 0, 9);
        }
        for (int kind = 0; kind < 6; kind++) {
            x.person(kind, 9, 0);
            for (int v = 0; v < 7; v++) {
                x.duty(kind, v, true);
            }
        }
        int[] due = {63, 28, 126, 0, 126, 126};
        for (int kind = 0; kind < 6; kind++) {
            Due.is("TOUR of all seven", x.tour(kind, 0), due[kind]);
        }
    }

    private static void affordsJust() {
        SundayIsAPlace x = lone();
        x.duty(0, 3, true);
        int[] purses = {8, 7, 6, 0, 999};
        int[] due = {1, 1, 0, 0, 1};
        for (int i = 0; i < purses.length; i++) {
            x.tell(0, 1, purses[i]);
            Due.is("AFFORDS a TOUR of 7 by " + purses[i], x.tour(0, 1), due[i]);
        }
        x.tell(0, 1, 0);
        x.duty(0, 3, false);
        Due.is("AFFORDS what costs nothing", x.tour(0, 1), 1);
        Due.is("nothing is refused", x.status(12) + x.status(15), 0);
    }

    // ---- 23

    private static void row(SundayIsAPlace x, int valley, int... due) {
        Due.is("how many STEPS to " + valley, x.route(0, valley, -1), due.length);
        for (int i = 0; i < due.length; i++) {
            Due.is("STEP " + i + " to " + valley, x.route(0, valley, i), due[i]);
        }
        Due.is("STEP behind the last", x.route(0, valley, due.length), -5);
    }

    private static void routeOfNoSteps() {
        Twins.keep(Scene::town, "how many", 0, x -> x.route(0, 0, -1));
        refuse("the first of none", -5, x -> x.route(0, 0, 0));
        refuse("the first of none", -5, x -> x.route(1, 5, 0));
    }

    private static void routesPlaces() {
        Twins.keep(WayEdgesTest::lone, "how many", 5, x -> x.route(0, 5, -1));
        Twins.keep(WayEdgesTest::lone, "the first", 0, x -> x.route(0, 5, 0));
        Twins.keep(WayEdgesTest::lone, "the last", 0, x -> x.route(0, 5, 4));
        for (int i : new int[] {5, 6, 7, 8, MAX}) {
            Twins.refuse(WayEdgesTest::lone, "place " + i, -5, x -> x.route(0, 5, i));
        }
        for (int i : new int[] {-2, MIN}) {
            Twins.refuse(WayEdgesTest::lone, "place " + i, -2, x -> x.route(0, 5, i));
        }
    }

    private static void longestRoute() {
        SundayIsAPlace x = lone();
        x.ask(0, 3, 9);
        row(x, 6, 0, 0, 0, 0, 0, 0);
        x.ask(6, 0, 0);
        x.ask(0, 0, 9);
        x.ask(0, 3, 0);
        row(x, 1, 1, 1, 1, 1, 1, 1);
    }

    private static void routeOfFewestSteps() {
        SundayIsAPlace x = lone();
        x.pass(0, 3, 3, 12);
        row(x, 3, 2);
        row(x, 4, 2, 0);
        row(free(), 4, 1, 1, 1);
        row(free(), 3, 0, 0, 0);
        SundayIsAPlace y = lone();
        y.pass(0, 3, 4, 1);
        row(y, 3, 0, 0, 0);
    }

    private static void routeOfTheFirstByRows() {
        SundayIsAPlace x = lone();
        x.pass(0, 3, 1, 12);
        x.pass(0, 3, 1, 1);
        row(x, 3, 2);
        SundayIsAPlace y = lone();
        y.pass(1, 3, 1, 1);
        y.pass(0, 2, 1, 1);
        row(y, 3, 0, 2);
        SundayIsAPlace z = free();
        z.pass(0, 1, 0, 1);
        z.pass(0, 6, 0, 1);
        row(z, 1, 0);
        row(z, 6, 1);
    }

    private static void routeByPassesThatBeginThere() {
        SundayIsAPlace x = lone();
        x.pass(1, 0, 0, 1);
        x.pass(0, 3, 0, 1);
        row(x, 3, 3);
        x.pass(3, 5, 0, 1);
        row(x, 5, 3, 4);
        x.tell(0, 0, 1);
        row(x, 5, 2, 3, 4);
    }

    private static void routeBadAheadOfStuck() {
        refuse("nobody, not so many", -2, x -> x.route(2, 0, 9));
        refuse("no VALLEY, not so many", -2, x -> x.route(0, 7, 9));
        refuse("no VALLEY, not so many", -2, x -> x.route(0, -1, 9));
    }

    // ---- 24

    private static void order(SundayIsAPlace x, int... due) {
        Due.is("how many VALLEYS", x.tourOf(0, -1), due.length);
        for (int i = 0; i < due.length; i++) {
            Due.is("VALLEY " + i, x.tourOf(0, i), due[i]);
        }
        Due.is("VALLEY behind the last", x.tourOf(0, due.length), -5);
    }

    private static SundayIsAPlace duties(int set) {
        SundayIsAPlace x = lone();
        for (int v = 0; v < 7; v++) {
            x.duty(0, v, (set >> v & 1) == 1);
        }
        return x;
    }

    private static void tourOfNoValleys() {
        Twins.keep(WayEdgesTest::lone, "how many", 0, x -> x.tourOf(0, -1));
        Twins.refuse(WayEdgesTest::lone, "the first of none", -5, x -> x.tourOf(0, 0));
        Twins.keep(() -> duties(1), "how many but AT", 0, x -> x.tourOf(0, -1));
        Twins.refuse(() -> duties(1), "the first but AT", -5, x -> x.tourOf(0, 0));
    }

    private static void toursPlaces() {
        Supplier<SundayIsAPlace> made = () -> duties(127);
        order(made.get(), 1, 2, 3, 4, 5, 6);
        Twins.keep(made, "how many", 6, x -> x.tourOf(0, -1));
        Twins.keep(made, "the first", 1, x -> x.tourOf(0, 0));
        Twins.keep(made, "the last", 6, x -> x.tourOf(0, 5));
        for (int i : new int[] {6, 7, 8, MAX}) {
            Twins.refuse(made, "place " + i, -5, x -> x.tourOf(0, i));
        }
        for (int i : new int[] {-2, MIN}) {
            Twins.refuse(made, "place " + i, -2, x -> x.tourOf(0, i));
        }
    }

    private static void tourOfTheFirstByRows() {
        SundayIsAPlace x = free();
        for (int v = 1; v < 7; v++) {
            x.duty(0, v, true);
        }
        order(x, 1, 2, 3, 4, 5, 6);
        SundayIsAPlace y = duties(2 + 64);
        y.ask(0, 3, 0);
        order(y, 1, 6);
        y.tell(0, 0, 3);
        y.tell(0, 3, 3);
        y.duty(0, 6, false);
        y.duty(0, 5, true);
        order(y, 1, 5);
    }

    private static void tourOfHomeLast() {
        SundayIsAPlace x = duties(2 + 4);
        order(x, 1, 2);
        x.tell(0, 3, 1);
        order(x, 1, 2);
        x.ask(0, 3, 9);
        x.tell(0, 0, 4);
        x.tell(0, 3, 0);
        order(x, 1, 2);
        x.tell(0, 0, 2);
        order(x, 1);
    }

    private static void tourByCheapestWays() {
        SundayIsAPlace x = duties(1 + 2 + 8);
        x.tell(0, 0, 2);
        order(x, 1, 3, 0);
        x.tell(0, 3, 1);
        order(x, 3, 0, 1);
        x.tell(0, 0, 5);
        x.tell(0, 3, 5);
        order(x, 0, 1, 3);
        SundayIsAPlace y = duties(1 + 32 + 64);
        y.tell(0, 0, 4);
        order(y, 5, 6, 0);
        y.tell(0, 3, 4);
        order(y, 5, 6, 0);
        y.ask(0, 3, 0);
        order(y, 0, 6, 5);
    }

    private static void tourOfFewValleys() {
        SundayIsAPlace x = duties(127);
        order(x, 1, 2, 3, 4, 5, 6);
        for (int v = 0; v < 7; v++) {
            x.duty(0, v, v == 4);
        }
        order(x, 4);
        for (int i = 1; i < 8; i++) {
            Due.is("VALLEY " + i + " of one", x.tourOf(0, i), -5);
        }
        row(x, 6, 1);
        for (int i = 1; i < 8; i++) {
            Due.is("STEP " + i + " of one", x.route(0, 6, i), -5);
        }
    }

    // ---- 25 and 26

    private static void savedByNone() {
        Twins.refuse(Scene::bare, "saved by none", -2, x -> x.saved(0));
        Twins.number(Scene::town, "saved, pass", 0, 0, (x, v) -> x.saved(v));
        Twins.refuse(Scene::town, "saved by the third of one", -2, x -> x.saved(2));
        Twins.number(Scene::fullTown, "saved, pass of three", 0, 2, (x, v) -> x.saved(v));
    }

    private static void savedOfNobody() {
        SundayIsAPlace x = Scene.bare();
        x.pass(0, 3, 0, 1);
        Due.is("saved of nobody", x.saved(0), 0);
    }

    private static void savedOfAllTogether() {
        SundayIsAPlace x = Scene.bare();
        for (int i = 0; i < 6; i++) {
            x.person(0, 0, 0);
            x.duty(i, 4, true);
        }
        x.pass(0, 4, 1, 1);
        Due.is("saved of six", x.saved(0), 18);
    }

    private static void savedWhereAnotherServes() {
        SundayIsAPlace x = duties(16);
        x.pass(0, 4, 0, 1);
        Due.is("saved", x.saved(0), 4);
        x.pass(0, 4, 0, 1);
        Due.is("saved where another serves", x.saved(0), 0);
        Due.is("saved where another serves", x.saved(1), 0);
        Due.is("TOUR", x.tour(0, 0), 3);
    }

    private static void bestPassOfNone() {
        Twins.refuse(Scene::bare, "no PASS", -5, x -> x.bestPass());
        Twins.refuse(WayEdgesTest::lone, "no PASS", -5, x -> x.bestPass());
    }

    private static void bestPassOfSeveral() {
        SundayIsAPlace x = duties(16);
        x.pass(2, 3, 9, 1);
        Due.is("one that saves nothing", x.bestPass(), 0);
        x.pass(0, 4, 0, 1);
        Due.is("one that saves", x.bestPass(), 1);
        x.pass(4, 0, 0, 1);
        Due.is("of several the first", x.saved(1), x.saved(2) + 1);
        Due.is("of several the first", x.bestPass(), 1);
        SundayIsAPlace y = duties(16);
        for (int i = 0; i < 3; i++) {
            Due.is("the number", y.pass(0, 4, 0, 1), i);
            Due.is("of those that save the same the first", y.bestPass(), 0);
        }
        SundayIsAPlace z = Scene.bare();
        z.pass(0, 4, 0, 1);
        z.pass(0, 4, 0, 1);
        Due.is("of nobody", z.bestPass(), 0);
    }

    private static void bestPassIsTheLast() {
        SundayIsAPlace x = duties(16);
        x.pass(2, 3, 9, 1);
        x.pass(2, 3, 9, 1);
        x.pass(0, 4, 0, 1);
        Due.is("the last", x.bestPass(), 2);
    }

    // ---- 27

    private static void firstOfNobody() {
        for (int what = 0; what < 3; what++) {
            int w = what;
            Twins.refuse(Scene::bare, "first of nobody", -5, x -> x.first(w));
        }
    }

    private static void firstBadAheadOfStuck() {
        for (int what : new int[] {-1, 3, MIN, MAX}) {
            Twins.refuse(Scene::bare, "first " + what + " of nobody", -2, x -> x.first(what));
        }
        Twins.number(Scene::town, "first, what", 0, 2, (x, v) -> x.first(v));
    }

    private static SundayIsAPlace six() {
        SundayIsAPlace x = free();
        for (int i = 1; i < 6; i++) {
            x.person(0, 0, 0);
        }
        return x;
    }

    private static void firstPurse() {
        SundayIsAPlace x = six();
        Due.is("all the same", x.first(0), 0);
        x.tell(5, 1, 21);
        Due.is("the last", x.first(0), 5);
        x.tell(3, 1, 21);
        Due.is("of several the first", x.first(0), 3);
        x.tell(4, 1, 999);
        Due.is("the greatest", x.first(0), 4);
        for (int i = 0; i < 6; i++) {
            x.tell(i, 1, 0);
        }
        Due.is("all nothing", x.first(0), 0);
    }

    private static void firstTired() {
        SundayIsAPlace x = six();
        Due.is("all the same", x.first(1), 0);
        x.tell(5, 2, 1);
        Due.is("the last", x.first(1), 5);
        x.tell(3, 2, 1);
        Due.is("of several the first", x.first(1), 3);
        x.tell(4, 2, 20);
        Due.is("the greatest", x.first(1), 4);
    }

    private static void firstAge() {
        SundayIsAPlace x = six();
        Due.is("all the same", x.first(2), 0);
        x.act(5, 0);
        Due.is("the last", x.first(2), 5);
        x.act(3, 0);
        Due.is("of several the first", x.first(2), 3);
        x.act(4, 0);
        x.act(4, 0);
        Due.is("the greatest", x.first(2), 4);
    }

    // ---- 28

    /** How often one with this PURSE must WORK for a TOUR of 7, where PAY is what is told. */
    private static void worksFor(int purse, int pay, int due) {
        SundayIsAPlace x = duties(8);
        x.ask(0, 2, pay);
        x.tell(0, 1, purse);
        Due.is("works, PURSE " + purse + ", PAY " + pay, x.works(0), due);
        Due.is("nothing is refused", x.status(12) + x.status(15), 0);
    }

    private static void worksNotAtAll() {
        worksFor(8, 4, 0);
        worksFor(7, 4, 0);
        worksFor(7, 0, 0);
        worksFor(999, 20, 0);
    }

    private static void worksJustSoOften() {
        worksFor(6, 4, 1);
        worksFor(3, 4, 1);
        worksFor(2, 4, 2);
        worksFor(0, 4, 2);
        worksFor(0, 1, 7);
        worksFor(0, 7, 1);
        worksFor(0, 6, 2);
        worksFor(0, 20, 1);
    }

    private static void worksNever() {
        worksFor(6, 0, -1);
        worksFor(0, 0, -1);
        SundayIsAPlace x = duties(8);
        x.tell(0, 0, 6);
        x.ask(6, 2, 20);
        x.tell(0, 1, 7);
        Due.is("TOUR from Sunday", x.tour(0, 0), 8);
        Due.is("never on Sunday", x.works(0), -1);
        x.tell(0, 1, 8);
        Due.is("on Sunday with enough", x.works(0), 0);
        Due.is("NONE isn't refused", x.status(12) + x.status(15), 0);
        Twins.keep(() -> sundayWithDuty(), "never on Sunday", -1, y -> y.works(0));
    }

    private static SundayIsAPlace sundayWithDuty() {
        SundayIsAPlace x = duties(8);
        x.tell(0, 0, 6);
        x.tell(0, 1, 0);
        return x;
    }

    private static void worksTiredAside() {
        SundayIsAPlace x = duties(8);
        x.tell(0, 1, 0);
        x.ask(0, 2, 1);
        x.tell(0, 2, 20);
        Due.is("works", x.works(0), 7);
    }

    private static void worksForTheDearestTour() {
        SundayIsAPlace x = Scene.bare();
        for (int v = 0; v < 7; v++) {
            x.ask(v, 0, 9);
        }
        x.person(5, 0, 0);
        for (int v = 0; v < 7; v++) {
            x.duty(0, v, true);
        }
        x.tell(0, 1, 0);
        x.ask(0, 2, 1);
        Due.is("TOUR", x.tour(0, 0), 126);
        Due.is("works", x.works(0), 126);
    }

    // ---- 29 and 30

    private static void stepsRoundTheRing() {
        everyValley(WayEdgesTest::lone, "STEPS to", (x, v) -> x.steps(0, v), 0, 1, 2, 3, 3, 2, 1);
    }

    private static void stepsByPasses() {
        SundayIsAPlace x = one(0, 0);
        x.pass(0, 3, 9, 12);
        Due.is("to where it ends", x.steps(0, 3), 1);
        Due.is("further on", x.steps(0, 4), 2);
        x.tell(0, 0, 3);
        Due.is("one way", x.steps(0, 0), 3);
    }

    private static void withinHours() {
        int[] v = {0, 2, 3, 6, 7, 8, 9, 11, 12, 16, 17, 18, 999};
        int[] due = {1, 1, 3, 3, 7, 7, 71, 71, 79, 79, 111, 127, 127};
        for (int i = 0; i < v.length; i++) {
            int hours = v[i];
            Twins.keep(() -> one(0, 0), "within HOURS " + hours, due[i], x -> x.within(0, hours, 0));
        }
    }

    private static void withinPrices() {
        int[] v = {0, 1, 2, 3, 5, 6, 9, 10, 14, 15, 16, 999};
        int[] due = {1, 3, 3, 7, 7, 15, 15, 31, 31, 63, 127, 127};
        for (int i = 0; i < v.length; i++) {
            int price = v[i];
            Twins.keep(() -> one(0, 0), "within PRICES " + price, due[i], x -> x.within(0, price, 1));
        }
    }

    private static void withinFromWhereOneIs() {
        SundayIsAPlace x = one(0, 0);
        for (int v = 0; v < 7; v++) {
            x.tell(0, 0, v);
            Due.is("within no HOURS", x.within(0, 0, 0), 1 << v);
            Due.is("within no PRICES", x.within(0, 0, 1), 1 << v);
        }
    }

    // ---- 31 to 34

    private static void crowdOfNobody() {
        Twins.keep(Scene::bare, "crowd of nobody", 0, x -> x.crowd());
    }

    private static void crowdOfSeveral() {
        SundayIsAPlace x = Scene.bare();
        x.person(0, 0, 6);
        Due.is("the last VALLEY", x.crowd(), 6);
        x.person(0, 0, 3);
        Due.is("of several the first", x.crowd(), 3);
        x.person(0, 0, 6);
        Due.is("most", x.crowd(), 6);
        x.person(0, 0, 3);
        x.person(0, 0, 0);
        Due.is("of several the first", x.crowd(), 3);
        x.person(0, 0, 0);
        Due.is("of several the first", x.crowd(), 0);
        x.tell(5, 0, 6);
        Due.is("AT, not HOME", x.crowd(), 6);
    }

    private static void ringOfEachKind() {
        int[] due = {28, 12, 63, 0, 63, 56};
        for (int kind = 0; kind < 6; kind++) {
            Due.is("ring of KIND " + kind, one(kind, 5).ring(0), due[kind]);
        }
        Due.is("ring of a PRIEST, each STEP 0 at least", one(3, 2).ring(0), 2);
        Due.is("ring of nothing", free().ring(0), 0);
        SundayIsAPlace x = one(0, 0);
        x.tell(0, 0, 4);
        Due.is("ring from elsewhere", x.ring(0), 28);
    }

    private static void dearestOfSeveral() {
        Due.is("all nothing", free().dearest(0), 0);
        SundayIsAPlace x = free();
        x.pass(0, 1, 0, 1);
        Due.is("all nothing", x.dearest(0), 0);
        x.pass(0, 2, 5, 1);
        x.pass(0, 3, 5, 1);
        Due.is("of two PASSES the first", x.dearest(0), 3);
        x.ask(6, 0, 5);
        Due.is("BACK and PASSES", x.dearest(0), 1);
        x.ask(0, 0, 5);
        Due.is("FORWARD and BACK", x.dearest(0), 0);
        x.ask(6, 0, 6);
        Due.is("BACK", x.dearest(0), 1);
    }

    private static void dearestOfThoseThere() {
        SundayIsAPlace x = lone();
        x.pass(1, 0, 9, 1);
        Due.is("a PASS that begins elsewhere", x.dearest(0), 1);
        x.pass(1, 0, 9, 1);
        x.pass(0, 1, 9, 1);
        Due.is("the last PASS", x.dearest(0), 4);
        x.person(4, 0, 0);
        Due.is("of a SMUGGLER", x.dearest(1), 1);
        x.tell(0, 0, 1);
        Due.is("from elsewhere, of two PASSES the first", x.dearest(0), 2);
        x.duty(0, 1, true);
        x.tell(0, 0, 4);
        Due.is("from elsewhere, no PASS", x.dearest(0), 1);
        x.ask(4, 0, 9);
        Due.is("from elsewhere, FORWARD", x.dearest(0), 0);
    }

    private static void alikeTheSame() {
        Twins.refuse(Scene::town, "alike 0, 0", -2, x -> x.alike(0, 0));
        Twins.refuse(Scene::town, "alike 1, 1", -2, x -> x.alike(1, 1));
        Twins.refuse(Scene::bare, "alike of nobody", -2, x -> x.alike(0, 1));
    }

    private static void alikeOfTwo() {
        Twins.number(Scene::town, "alike, person", 0, 0, (x, v) -> x.alike(v, 1));
        Twins.number(Scene::town, "alike, other", 1, 1, (x, v) -> x.alike(0, v));
    }

    private static void alikeFromWhereEachIs() {
        SundayIsAPlace x = lone();
        x.person(2, 0, 0);
        Due.is("all", x.alike(0, 1), 127);
        x.person(2, 1, 0);
        Due.is("AT alone", x.alike(0, 2), 1);
        x.tell(1, 0, 6);
        Due.is("none", x.alike(0, 1), 0);
        Due.is("none", x.alike(1, 0), 0);
        x.tell(1, 0, 3);
        Due.is("the last VALLEY", x.alike(0, 1), 64);
    }

    // ---- 35 to 37

    private static void homesOfNobody() {
        Twins.refuse(Scene::bare, "homes of nobody", -5, x -> x.homes(-1));
    }

    private static void homesBadAheadOfStuck() {
        for (int person : new int[] {0, 5, -2, MIN, MAX}) {
            Twins.refuse(Scene::bare, "homes of no " + person, -2, x -> x.homes(person));
        }
        Twins.number(Scene::town, "homes, person or NONE", -1, 1, (x, v) -> x.homes(v));
        Twins.number(Scene::fullTown, "homes, person or NONE", -1, 5, (x, v) -> x.homes(v));
    }

    private static void homesOfSeveral() {
        Due.is("one without DUTY", lone().homes(0), 0);
        Due.is("how much", lone().homes(-1), 0);
        SundayIsAPlace x = six();
        Due.is("how much of six", x.homes(-1), 0);
        for (int i = 0; i < 6; i++) {
            Due.is("of several the first by rows", x.homes(i), i);
        }
    }

    /** From VALLEYS 0 to 6 the TOUR with a DUTY on 3, and home again, costs 7, 7, 4, 0, 4, 7, 7 of a PERSON. */
    private static void homesDue(int[] kinds, int sum, int... due) {
        SundayIsAPlace x = Scene.bare();
        for (int i = 0; i < kinds.length; i++) {
            x.person(kinds[i], 0, 6);
            x.duty(i, 3, true);
        }
        Due.is("how much", x.homes(-1), sum);
        for (int i = 0; i < due.length; i++) {
            Due.is("HOME of " + i, x.homes(i), due[i]);
        }
    }

    private static void homesNoTwoTheSame() {
        homesDue(new int[] {0}, 0, 3);
        homesDue(new int[] {0, 0}, 4, 2, 3);
        homesDue(new int[] {5, 0}, 4, 3, 2);
        homesDue(new int[] {0, 5}, 4, 2, 3);
        homesDue(new int[] {0, 0, 0, 0, 0, 0}, 29, 0, 1, 2, 3, 4, 5);
        homesDue(new int[] {5, 0, 0, 0, 0, 0}, 29, 3, 0, 1, 2, 4, 5);
    }

    private static void marketOfNobody() {
        Twins.keep(Scene::bare, "market of nobody", 0, x -> x.market());
    }

    private static void marketOfSeveral() {
        Due.is("all nothing", six().market(), 0);
        SundayIsAPlace x = lone();
        x.tell(0, 0, 6);
        Due.is("where one is AT", x.market(), 6);
        x.ask(5, 0, 0);
        x.ask(0, 3, 0);
        Due.is("of several the first", x.market(), 5);
        SundayIsAPlace y = lone();
        y.ask(0, 3, 0);
        y.person(0, 0, 3);
        Due.is("of several the first", y.market(), 0);
        y.tell(0, 0, 2);
        Due.is("of several the first", y.market(), 2);
    }

    private static void meetOfNobody() {
        Twins.keep(Scene::bare, "meet of nobody", 0, x -> x.meet(0));
        Twins.keep(Scene::bare, "meet of nobody, HOURS", 0, x -> x.meet(1));
        Twins.number(Scene::bare, "meet, what", 0, 1, (x, v) -> x.meet(v));
        Twins.number(Scene::town, "meet, what", 0, 1, (x, v) -> x.meet(v));
    }

    private static void meetOfSeveral() {
        SundayIsAPlace x = lone();
        Due.is("where one is AT", x.meet(0), 0);
        Due.is("no HOURS", x.meet(1), 0);
        x.tell(0, 0, 6);
        Due.is("where one is AT", x.meet(0), 6);
        x.person(0, 0, 3);
        Due.is("of several the first", x.meet(0), 1);
        Due.is("HOURS", x.meet(1), 6);
        x.tell(1, 0, 4);
        Due.is("between them", x.meet(0), 5);
        Due.is("HOURS", x.meet(1), 3);
    }

    private static void pricesAndWays() {
        Due.sentence("20: behind 6 comes 0 (FORWARD)", WayEdgesTest::forwardRoundTheRing);
        Due.sentence("20: behind 6 comes 0 (BACK)", WayEdgesTest::backRoundTheRing);
        Due.sentence("20: PERSON its FARE (BACK with BACK more)", WayEdgesTest::personsPrice);
        Due.sentence("20: CLERK half of it (cut)", WayEdgesTest::clerksHalf);
        Due.sentence("20: PRIEST what a CLERK pays less a (0 at least)", WayEdgesTest::priestsLess);
        Due.sentence("20: RESTLESS a more than a PERSON", WayEdgesTest::restlessMore);
        Due.sentence("20: SMUGGLER nothing for a PASS, else as RESTLESS", WayEdgesTest::smugglersNothing);
        Due.sentence("20: STRANGER twice what a PERSON pays", WayEdgesTest::strangersTwice);
        Due.sentence("20: BAD (person)", () -> ofPerson("price", (x, v) -> x.price(v, 0, 0)));
        Due.sentence("20: BAD (valley)", () -> ofValley("price", (x, v) -> x.price(0, v, 1)));
        Due.sentence("20: BAD (a STEP, 0 to 4)",
            () -> Twins.number(Scene::town, "price, step", 0, 4, (x, v) -> x.price(0, 0, v)));
        Due.sentence("20: STUCK: no such PASS begins there", WayEdgesTest::priceOfNoPass);
        Due.sentence("20: BAD; STUCK: in this order", WayEdgesTest::priceBadAheadOfStuck);
        Due.sentence("21: CHEAPEST (round the ring, BACK with BACK more)", WayEdgesTest::cheapestRoundTheRing);
        Due.sentence("21: QUICKEST (round the ring)", WayEdgesTest::quickestRoundTheRing);
        Due.sentence("21: back the same HOURS", WayEdgesTest::backHasTheSameHours);
        Due.sentence("21: YOUNGEST the least AGE (FORWARD alone makes older)", WayEdgesTest::youngest);
        Due.sentence("21: the way to where one is AT", WayEdgesTest::wayToWhereOneIs);
        Due.sentence("21: PASSES across, one way", WayEdgesTest::waysByPasses);
        Due.sentence("21: the greatest PRICES and HOURS", WayEdgesTest::dearWays);
        Due.sentence("21: BAD (person)", () -> ofPerson("way", (x, v) -> x.way(v, 0, 0)));
        Due.sentence("21: BAD (valley)", () -> ofValley("way", (x, v) -> x.way(0, v, 0)));
        Due.sentence("21: BAD (what)",
            () -> Twins.number(Scene::town, "way, what", 0, 2, (x, v) -> x.way(0, 0, v)));
        Due.sentence("21 to 37: PURSE, TIRED aside; nothing is changed", WayEdgesTest::purseAndTiredAside);
    }

    private static void toursAndRoutes() {
        Due.sentence("22: TOUR of no DUTY; HOME at last", WayEdgesTest::tourOfNoDuty);
        Due.sentence("22: AT counts", WayEdgesTest::atCounts);
        Due.sentence("22: all VALLEYS of DUTY", WayEdgesTest::tourOfAll);
        Due.sentence("22: TOUR of the greatest PRICES", WayEdgesTest::dearestTour);
        Due.sentence("22: AFFORDS: whether PURSE has that (1, 0)", WayEdgesTest::affordsJust);
        Due.sentence("22: BAD (person)", () -> ofPerson("tour", (x, v) -> x.tour(v, 0)));
        Due.sentence("22: BAD (what)",
            () -> Twins.number(Scene::town, "tour, what", 0, 1, (x, v) -> x.tour(0, v)));
        Due.sentence("23: how many (i NONE), of no STEPS", WayEdgesTest::routeOfNoSteps);
        Due.sentence("23: how many (i NONE), the i-th; STUCK: not so many", WayEdgesTest::routesPlaces);
        Due.sentence("23: the longest of the CHEAPEST ways", WayEdgesTest::longestRoute);
        Due.sentence("23: with fewest STEPS", WayEdgesTest::routeOfFewestSteps);
        Due.sentence("23: the first by rows of STEPS", WayEdgesTest::routeOfTheFirstByRows);
        Due.sentence("23: a PASS that begins there", WayEdgesTest::routeByPassesThatBeginThere);
        Due.sentence("23: BAD (person)", () -> ofPerson("route", (x, v) -> x.route(v, 6, -1)));
        Due.sentence("23: BAD (valley)", () -> ofValley("route", (x, v) -> x.route(0, v, -1)));
        Due.sentence("23: BAD; STUCK: in this order", WayEdgesTest::routeBadAheadOfStuck);
        Due.sentence("24: how many (i NONE), of no VALLEYS", WayEdgesTest::tourOfNoValleys);
        Due.sentence("24: how many (i NONE), the i-th; STUCK: not so many", WayEdgesTest::toursPlaces);
        Due.sentence("24: of several the first by rows", WayEdgesTest::tourOfTheFirstByRows);
        Due.sentence("24: VALLEYS of DUTY that aren't AT", WayEdgesTest::tourOfHomeLast);
        Due.sentence("24: one after the other by CHEAPEST ways", WayEdgesTest::tourByCheapestWays);
        Due.sentence("24: STUCK: not so many, where there were more", WayEdgesTest::tourOfFewValleys);
        Due.sentence("24: BAD (person)", () -> ofPerson("tourOf", (x, v) -> x.tourOf(v, -1)));
        Due.sentence("24: BAD; STUCK: in this order", () -> refuse("nobody, not so many", -2, x -> x.tourOf(2, 99)));
    }

    private static void passesAndPeople() {
        Due.sentence("25: BAD", WayEdgesTest::savedByNone);
        Due.sentence("25: all TOURS together, of nobody", WayEdgesTest::savedOfNobody);
        Due.sentence("25: all TOURS together, of six", WayEdgesTest::savedOfAllTogether);
        Due.sentence("25: without a PASS where another serves", WayEdgesTest::savedWhereAnotherServes);
        Due.sentence("26: STUCK: there is none", WayEdgesTest::bestPassOfNone);
        Due.sentence("26: of several the first", WayEdgesTest::bestPassOfSeveral);
        Due.sentence("26: The PASS that saves most so, the last of three", WayEdgesTest::bestPassIsTheLast);
        Due.sentence("27: STUCK: nobody", WayEdgesTest::firstOfNobody);
        Due.sentence("27: BAD; STUCK: in this order", WayEdgesTest::firstBadAheadOfStuck);
        Due.sentence("27: the greatest PURSE, of several the first", WayEdgesTest::firstPurse);
        Due.sentence("27: most TIRED, of several the first", WayEdgesTest::firstTired);
        Due.sentence("27: the greatest AGE, of several the first", WayEdgesTest::firstAge);
        Due.sentence("28: so that PURSE has his TOUR (at once)", WayEdgesTest::worksNotAtAll);
        Due.sentence("28: How often one must WORK", WayEdgesTest::worksJustSoOften);
        Due.sentence("28: NONE: never. (NONE isn't refused.)", WayEdgesTest::worksNever);
        Due.sentence("28: TIRED aside", WayEdgesTest::worksTiredAside);
        Due.sentence("28: the greatest TOUR, the least PAY", WayEdgesTest::worksForTheDearestTour);
        Due.sentence("28: BAD", () -> ofPerson("works", (x, v) -> x.works(v)));
        Due.sentence("29: By how few STEPS (round the ring)", WayEdgesTest::stepsRoundTheRing);
        Due.sentence("29: By how few STEPS (by PASSES, one way)", WayEdgesTest::stepsByPasses);
        Due.sentence("29: BAD (person)", () -> ofPerson("steps", (x, v) -> x.steps(v, 0)));
        Due.sentence("29: BAD (valley)", () -> ofValley("steps", (x, v) -> x.steps(0, v)));
    }

    private static void valleysAndPrices() {
        Due.sentence("30: QUICKEST is v HOURS at most", WayEdgesTest::withinHours);
        Due.sentence("30: CHEAPEST v at most", WayEdgesTest::withinPrices);
        Due.sentence("30: to where one is AT", WayEdgesTest::withinFromWhereOneIs);
        Due.sentence("30: v HOURS (0 to 999)",
            () -> Twins.number(Scene::town, "within, v", 0, 999, (x, v) -> x.within(0, v, 0)));
        Due.sentence("30: CHEAPEST v (0 to 999)",
            () -> Twins.number(Scene::town, "within, v", 0, 999, (x, v) -> x.within(0, v, 1)));
        Due.sentence("30: BAD (what)",
            () -> Twins.number(Scene::town, "within, what", 0, 1, (x, v) -> x.within(0, 5, v)));
        Due.sentence("30: BAD (person)", () -> ofPerson("within", (x, v) -> x.within(v, 5, 0)));
        Due.sentence("31: AT which most PEOPLE are, of nobody", WayEdgesTest::crowdOfNobody);
        Due.sentence("31: of several the first", WayEdgesTest::crowdOfSeveral);
        Due.sentence("32: going FORWARD round all seven VALLEYS", WayEdgesTest::ringOfEachKind);
        Due.sentence("32: BAD", () -> ofPerson("ring", (x, v) -> x.ring(v)));
        Due.sentence("33: of several the first", WayEdgesTest::dearestOfSeveral);
        Due.sentence("33: The STEP from where one is AT", WayEdgesTest::dearestOfThoseThere);
        Due.sentence("33: BAD", () -> ofPerson("dearest", (x, v) -> x.dearest(v)));
        Due.sentence("34: BAD: also the same", WayEdgesTest::alikeTheSame);
        Due.sentence("34: BAD", WayEdgesTest::alikeOfTwo);
        Due.sentence("34: each from where he is AT", WayEdgesTest::alikeFromWhereEachIs);
    }

    private static void whereAllLiveAndMeet() {
        Due.sentence("35: STUCK: nobody", WayEdgesTest::homesOfNobody);
        Due.sentence("35: BAD; STUCK: in this order; (person NONE)", WayEdgesTest::homesBadAheadOfStuck);
        Due.sentence("35: of several the first by rows of VALLEYS", WayEdgesTest::homesOfSeveral);
        Due.sentence("35: no two the same", WayEdgesTest::homesNoTwoTheSame);
        Due.sentence("36: (of nobody: 0)", WayEdgesTest::marketOfNobody);
        Due.sentence("36: of several the first", WayEdgesTest::marketOfSeveral);
        Due.sentence("37: of nobody 0; BAD", WayEdgesTest::meetOfNobody);
        Due.sentence("37: of several the first", WayEdgesTest::meetOfSeveral);
    }

    public static void main(String[] args) {
        pricesAndWays();
        toursAndRoutes();
        passesAndPeople();
        valleysAndPrices();
        whereAllLiveAndMeet();
        Due.end("WayEdgesTest");
    }
}
