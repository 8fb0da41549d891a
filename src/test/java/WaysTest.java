/** Promises 20 to 37: PRICES, ways, TOURS, HOMES, MARKET and MEET. */
public final class WaysTest {
    private static void price() {
        int[][] due = {{5, 10, 9}, {2, 5, 4}, {7, 12, 11}, {0, 3, 2}, {7, 12, 0}, {10, 20, 18}};
        SundayIsAPlace x = new SundayIsAPlace();
        Due.is("land", Due.land(x, "fare 0 5;fare 6 7;back 3;pass 3 0 1 1;pass 0 3 9 4"), 5);
        for (int kind = 0; kind < 6; kind++) {
            x.person(kind, 2, 5);
            Due.is("FORWARD of " + kind, x.price(kind, 0, 0), due[kind][0]);
            Due.is("BACK of " + kind, x.price(kind, 0, 1), due[kind][1]);
            Due.is("PASS of " + kind, x.price(kind, 0, 3), due[kind][2]);
        }
        Due.refused(x, "a PASS that begins elsewhere", x.price(0, 0, 2), -5, 0);
        Due.refused(x, "a PASS that begins elsewhere", x.price(0, 3, 3), -5, 1);
        Due.refused(x, "no such PASS", x.price(0, 0, 4), -5, 2);
        int[][] bad = {{-1, 0, 0}, {6, 0, 0}, {0, -1, 0}, {0, 7, 0}, {0, 0, -1}, {0, 0, 5}, {0, 7, 4}};
        for (int i = 0; i < bad.length; i++) {
            Due.refused(x, "price " + i, x.price(bad[i][0], bad[i][1], bad[i][2]), -2, i);
        }
    }

    private static void way() {
        SundayIsAPlace x = new SundayIsAPlace();
        x.person(0, 0, 0);
        int[] cheapest = {0, 1, 2, 3, 4, 5, 3};
        int[] quickest = {0, 3, 6, 9, 9, 6, 3};
        int[] fewest = {0, 1, 2, 3, 3, 2, 1};
        for (int v = 0; v < 7; v++) {
            Due.is("CHEAPEST", x.way(0, v, 0), cheapest[v]);
            Due.is("QUICKEST", x.way(0, v, 1), quickest[v]);
            Due.is("YOUNGEST", x.way(0, v, 2), 0);
            Due.is("steps", x.steps(0, v), fewest[v]);
        }
        x.tell(0, 1, 0);
        x.tell(0, 2, 20);
        Due.is("PURSE, TIRED aside", x.way(0, 5, 0), 5);
        x.pass(0, 5, 4, 1);
        Due.is("CHEAPEST by the PASS", x.way(0, 5, 0), 4);
        Due.is("QUICKEST by the PASS", x.way(0, 4, 1), 4);
        Due.is("QUICKEST without", x.way(0, 6, 1), 3);
        Due.is("steps by the PASS", x.steps(0, 4), 2);
        x.person(4, 9, 0);
        Due.is("CHEAPEST of a SMUGGLER", x.way(1, 5, 0), 0);
        int[][] bad = {{-1, 0, 0}, {2, 0, 0}, {0, -1, 0}, {0, 7, 0}, {0, 0, -1}, {0, 0, 3}};
        for (int i = 0; i < bad.length; i++) {
            Due.refused(x, "way " + i, x.way(bad[i][0], bad[i][1], bad[i][2]), -2, i);
        }
        for (int i = 0; i < 4; i++) {
            Due.refused(x, "steps " + i, x.steps(bad[i][0], bad[i][1]), -2, 6 + i);
        }
    }

    private static void tour() {
        SundayIsAPlace x = new SundayIsAPlace();
        x.person(0, 0, 0);
        Due.is("TOUR of no DUTY", x.tour(0, 0), 0);
        x.duty(0, 0, true);
        Due.is("AT counts", x.tour(0, 0), 0);
        x.duty(0, 3, true);
        Due.is("TOUR", x.tour(0, 0), 7);
        x.tell(0, 3, 4);
        Due.is("TOUR, HOME at last", x.tour(0, 0), 4);
        x.tell(0, 0, 5);
        Due.is("TOUR, AT elsewhere", x.tour(0, 0), 6);
        x.tell(0, 1, 6);
        Due.is("AFFORDS", x.tour(0, 1), 1);
        x.tell(0, 1, 5);
        Due.is("AFFORDS not", x.tour(0, 1), 0);
        for (int v = 0; v < 7; v++) {
            x.duty(0, v, true);
        }
        Due.is("TOUR of all", x.tour(0, 0), 6);
        x.tell(0, 3, 5);
        Due.is("TOUR of all and back", x.tour(0, 0), 7);
        Due.refused(x, "tour", x.tour(-1, 0), -2, 0);
        Due.refused(x, "tour", x.tour(1, 0), -2, 1);
        Due.refused(x, "tour", x.tour(0, -1), -2, 2);
        Due.refused(x, "tour", x.tour(0, 2), -2, 3);
    }

    private static void rowOfSteps(SundayIsAPlace x, int valley, int... due) {
        Due.is("how many STEPS to " + valley, x.route(0, valley, -1), due.length);
        for (int i = 0; i < due.length; i++) {
            Due.is("STEP " + i + " to " + valley, x.route(0, valley, i), due[i]);
        }
    }

    private static void route() {
        SundayIsAPlace x = new SundayIsAPlace();
        x.person(0, 0, 0);
        rowOfSteps(x, 0);
        rowOfSteps(x, 3, 0, 0, 0);
        rowOfSteps(x, 5, 0, 0, 0, 0, 0);
        rowOfSteps(x, 6, 1);
        Due.refused(x, "not so many", x.route(0, 0, 0), -5, 0);
        Due.refused(x, "not so many", x.route(0, 3, 3), -5, 1);
        Due.refused(x, "not so many", x.route(0, 3, Integer.MAX_VALUE), -5, 2);
        Due.refused(x, "route", x.route(0, 3, -2), -2, 0);
        Due.refused(x, "route", x.route(0, 7, 0), -2, 1);
        Due.refused(x, "route", x.route(0, -1, 0), -2, 2);
        Due.refused(x, "route", x.route(1, 0, 0), -2, 3);
        x.pass(0, 3, 3, 12);
        x.pass(0, 3, 3, 1);
        rowOfSteps(x, 3, 2);
        SundayIsAPlace y = new SundayIsAPlace();
        y.person(0, 0, 0);
        Due.is("land", Due.land(y, "back 0;fare 0 0;fare 1 0;fare 2 0;fare 3 0;fare 4 0;fare 5 0;fare 6 0;"
            + "pass 0 2 0 1;pass 1 3 0 1"), 10);
        rowOfSteps(y, 3, 0, 3);
        rowOfSteps(y, 4, 0, 3, 0);
        rowOfSteps(y, 5, 1, 1);
    }

    private static void orderDue(SundayIsAPlace x, int... due) {
        Due.is("how many of DUTY", x.tourOf(0, -1), due.length);
        for (int i = 0; i < due.length; i++) {
            Due.is("TOUR's VALLEY " + i, x.tourOf(0, i), due[i]);
        }
        int stuck = x.status(15);
        Due.refused(x, "not so many", x.tourOf(0, due.length), -5, stuck);
    }

    private static void tourOf() {
        SundayIsAPlace x = new SundayIsAPlace();
        x.person(0, 0, 0);
        orderDue(x);
        x.duty(0, 1, true);
        x.duty(0, 3, true);
        x.duty(0, 0, true);
        orderDue(x, 1, 3);
        x.tell(0, 0, 5);
        orderDue(x, 0, 1, 3);
        x.tell(0, 3, 5);
        x.tell(0, 0, 2);
        orderDue(x, 0, 1, 3);
        x.tell(0, 3, 1);
        orderDue(x, 3, 0, 1);
        SundayIsAPlace y = new SundayIsAPlace();
        y.person(1, 0, 4);
        for (int v = 0; v < 7; v++) {
            y.duty(0, v, true);
        }
        orderDue(y, 0, 1, 2, 3, 5, 6);
        Due.refused(x, "tourOf", x.tourOf(0, -2), -2, 0);
        Due.refused(x, "tourOf", x.tourOf(1, 0), -2, 1);
        Due.refused(x, "tourOf", x.tourOf(-1, 0), -2, 2);
    }

    private static void saved() {
        SundayIsAPlace x = new SundayIsAPlace();
        Due.refused(x, "bestPass of none", x.bestPass(), -5, 0);
        Due.refused(x, "saved by none", x.saved(0), -2, 0);
        x.pass(2, 3, 9, 1);
        x.pass(0, 5, 0, 1);
        Due.is("bestPass of nobody", x.bestPass(), 0);
        x.person(0, 0, 0);
        x.duty(0, 5, true);
        Due.is("saved", x.saved(1), 5);
        Due.is("saved", x.saved(0), 0);
        Due.is("bestPass", x.bestPass(), 1);
        x.person(5, 0, 0);
        x.duty(1, 5, true);
        Due.is("saved to both", x.saved(1), 15);
        x.pass(0, 5, 0, 1);
        Due.is("saved where another serves", x.saved(1), 0);
        Due.is("bestPass, the first", x.bestPass(), 0);
        Due.refused(x, "saved", x.saved(3), -2, 1);
        Due.refused(x, "saved", x.saved(-1), -2, 2);
    }

    private static void first() {
        SundayIsAPlace x = new SundayIsAPlace();
        for (int what = 0; what < 3; what++) {
            Due.refused(x, "first of nobody", x.first(what), -5, what);
        }
        x.person(0, 0, 0);
        x.person(0, 0, 0);
        x.person(0, 0, 0);
        for (int what = 0; what < 3; what++) {
            Due.is("first of the same", x.first(what), 0);
        }
        x.tell(1, 1, 21);
        x.tell(2, 1, 21);
        x.tell(2, 2, 1);
        x.act(1, 0);
        Due.is("the greatest PURSE", x.first(0), 2);
        x.tell(1, 1, 22);
        Due.is("the greatest PURSE", x.first(0), 1);
        Due.is("most TIRED, the first", x.first(1), 1);
        Due.is("the greatest AGE", x.first(2), 1);
        Due.refused(x, "first", x.first(-1), -2, 0);
        Due.refused(x, "first", x.first(3), -2, 1);
    }

    private static void works() {
        SundayIsAPlace x = new SundayIsAPlace();
        x.person(0, 0, 1);
        x.duty(0, 4, true);
        Due.is("TOUR", x.tour(0, 0), 7);
        Due.is("works, enough", x.works(0), 0);
        int[] purses = {7, 6, 3, 2, 0};
        int[] due = {0, 1, 1, 2, 2};
        for (int i = 0; i < purses.length; i++) {
            x.tell(0, 1, purses[i]);
            Due.is("works", x.works(0), due[i]);
        }
        x.tell(0, 2, 20);
        Due.is("TIRED aside", x.works(0), 2);
        x.ask(1, 2, 1);
        Due.is("works for a PAY of 1", x.works(0), 7);
        x.ask(1, 2, 20);
        Due.is("works once for all", x.works(0), 1);
        x.ask(1, 2, 0);
        Due.is("no PAY", x.works(0), -1);
        x.tell(0, 0, 6);
        Due.is("on Sunday", x.works(0), -1);
        x.tell(0, 1, 999);
        Due.is("on Sunday, enough", x.works(0), 0);
        Due.is("never is not refused", x.status(12) + x.status(15), 0);
        Due.refused(x, "works", x.works(1), -2, 0);
        Due.refused(x, "works", x.works(-1), -2, 1);
    }

    private static void within() {
        SundayIsAPlace x = new SundayIsAPlace();
        x.person(0, 0, 0);
        int[] v = {0, 2, 3, 5, 6, 8, 9, 999};
        int[] hours = {1, 1, 67, 67, 103, 103, 127, 127};
        int[] prices = {1, 7, 79, 127, 127, 127, 127, 127};
        for (int i = 0; i < v.length; i++) {
            Due.is("within HOURS " + v[i], x.within(0, v[i], 0), hours[i]);
            Due.is("within PRICES " + v[i], x.within(0, v[i], 1), prices[i]);
        }
        x.tell(0, 0, 6);
        Due.is("within no HOURS", x.within(0, 0, 0), 64);
        Due.is("within no PRICES", x.within(0, 0, 1), 64);
        int[][] bad = {{-1, 0, 0}, {1, 0, 0}, {0, -1, 0}, {0, 1000, 1}, {0, 0, -1}, {0, 0, 2}};
        for (int i = 0; i < bad.length; i++) {
            Due.refused(x, "within " + i, x.within(bad[i][0], bad[i][1], bad[i][2]), -2, i);
        }
    }

    private static void crowdAndRing() {
        SundayIsAPlace x = new SundayIsAPlace();
        Due.is("crowd of nobody", x.crowd(), 0);
        x.person(0, 0, 5);
        x.person(1, 0, 2);
        Due.is("crowd, the first", x.crowd(), 2);
        x.person(2, 3, 5);
        Due.is("crowd", x.crowd(), 5);
        SundayIsAPlace y = new SundayIsAPlace();
        y.person(0, 0, 0);
        y.person(0, 0, 3);
        Due.is("crowd AT the first VALLEY", y.crowd(), 0);
        y.tell(0, 0, 6);
        y.tell(1, 0, 6);
        Due.is("crowd AT the last VALLEY", y.crowd(), 6);
        x.ask(3, 0, 4);
        Due.is("ring of a PERSON", x.ring(0), 10);
        Due.is("ring of a CLERK: each STEP is cut", x.ring(1), 2);
        Due.is("ring of a RESTLESS", x.ring(2), 31);
        Due.refused(x, "ring", x.ring(3), -2, 0);
        Due.refused(x, "ring", x.ring(-1), -2, 1);
    }

    private static void dearest() {
        SundayIsAPlace x = new SundayIsAPlace();
        x.person(0, 0, 0);
        x.person(4, 0, 0);
        Due.is("dearest", x.dearest(0), 1);
        x.ask(0, 3, 0);
        Due.is("dearest, the first", x.dearest(0), 0);
        x.pass(1, 0, 9, 1);
        x.pass(0, 1, 1, 1);
        Due.is("dearest, the first", x.dearest(0), 0);
        x.pass(0, 2, 5, 1);
        Due.is("dearest, a PASS", x.dearest(0), 4);
        Due.is("dearest of a SMUGGLER", x.dearest(1), 0);
        Due.refused(x, "dearest", x.dearest(2), -2, 0);
        Due.refused(x, "dearest", x.dearest(-1), -2, 1);
    }

    private static void alike() {
        SundayIsAPlace x = new SundayIsAPlace();
        x.person(0, 0, 0);
        x.person(0, 5, 0);
        x.person(1, 0, 0);
        x.person(0, 0, 3);
        Due.is("alike", x.alike(0, 1), 127);
        Due.is("alike a CLERK", x.alike(0, 2), 1);
        Due.is("alike from elsewhere", x.alike(0, 3), 64);
        Due.refused(x, "alike", x.alike(0, 0), -2, 0);
        Due.refused(x, "alike", x.alike(0, 4), -2, 1);
        Due.refused(x, "alike", x.alike(-1, 0), -2, 2);
    }

    private static void homes() {
        SundayIsAPlace x = new SundayIsAPlace();
        Due.refused(x, "homes of nobody", x.homes(-1), -5, 0);
        Due.refused(x, "homes of no such", x.homes(0), -2, 0);
        x.person(0, 0, 6);
        x.person(0, 0, 6);
        x.duty(0, 2, true);
        x.duty(1, 2, true);
        Due.is("homes", x.homes(-1), 4);
        Due.is("HOME", x.homes(0), 1);
        Due.is("HOME", x.homes(1), 2);
        x.person(5, 0, 0);
        x.duty(2, 2, true);
        Due.is("homes of three", x.homes(-1), 8);
        Due.is("HOME", x.homes(0), 1);
        Due.is("HOME", x.homes(1), 3);
        Due.is("HOME", x.homes(2), 2);
        for (int p = 3; p < 6; p++) {
            x.person(0, 0, 0);
        }
        Due.is("homes of six", x.homes(-1), 8);
        Due.is("HOME of one without DUTY", x.homes(3), 0);
        Due.is("HOME of one without DUTY", x.homes(5), 5);
        Due.is("nothing is changed", x.personOf(0, 2), 6);
        Due.refused(x, "homes", x.homes(6), -2, 1);
        Due.refused(x, "homes", x.homes(-2), -2, 2);
    }

    private static void marketAndMeet() {
        SundayIsAPlace x = new SundayIsAPlace();
        Due.is("market of nobody", x.market(), 0);
        Due.is("meet of nobody", x.meet(0), 0);
        Due.is("meet of nobody", x.meet(1), 0);
        x.person(0, 0, 0);
        x.person(0, 0, 4);
        x.tell(1, 0, 3);
        Due.is("market", x.market(), 3);
        Due.is("meet, the first", x.meet(0), 1);
        Due.is("meet, HOURS", x.meet(1), 6);
        x.tell(1, 0, 4);
        Due.is("meet, the first", x.meet(0), 2);
        x.ask(5, 1, 1);
        Due.is("meet", x.meet(0), 5);
        Due.is("meet, HOURS", x.meet(1), 4);
        x.person(1, 0, 2);
        x.person(1, 0, 2);
        Due.is("market: CLERKS go FORWARD free", x.market(), 0);
        Due.refused(x, "meet", x.meet(-1), -2, 0);
        Due.refused(x, "meet", x.meet(2), -2, 1);
    }

    public static void main(String[] args) {
        price();
        way();
        tour();
        route();
        tourOf();
        saved();
        first();
        works();
        within();
        crowdAndRing();
        dearest();
        alike();
        homes();
        marketAndMeet();
        Due.end("WaysTest");
    }
}
