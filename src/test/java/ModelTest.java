import java.util.Random;

/** Runs of calls by draws from fixed seeds: the class and the Model must answer the same. */
public final class ModelTest {
    private static final int RUNS = 800;
    /** Behind so many calls no more is begun: what is begun takes 130 at most, and all() 100, of the 512. */
    private static final int CALLS = 280;

    private final Random random;
    private final int run;
    private final SundayIsAPlace x = new SundayIsAPlace();
    private final Model m = new Model();
    private int calls = 0;

    private ModelTest(int run) {
        this.run = run;
        random = new Random(run);
    }

    private boolean rarely(int oneOf) {
        return random.nextInt(oneOf) == 0;
    }

    /** Mostly a number that may be; now and then one that may not. */
    private int pick(int low, int high) {
        if (rarely(40)) {
            int[] edges = {low - 1, high + 1, Integer.MIN_VALUE, Integer.MAX_VALUE, -2, -1, 7, 10};
            return edges[random.nextInt(edges.length)];
        }
        return low + random.nextInt(high - low + 1);
    }

    private int someone() {
        int n = m.status(0);
        return rarely(30) ? pick(-1, 6) : n == 0 ? 0 : random.nextInt(n);
    }

    private int shelf() {
        return pick(0, 7);
    }

    private void same(String call, long got, long want) {
        calls++;
        Due.is("run " + run + ": " + call, got, want);
    }

    private void tell(String text) {
        for (int i = 0; i < text.length(); i++) {
            same("feed", x.feed(text.charAt(i)), m.feed(text.charAt(i)));
        }
    }

    private String number(int low, int high) {
        int v = rarely(60) ? high + 1 : rarely(60) ? low - 1 : low + random.nextInt(high - low + 1);
        String digits = Integer.toString(v);
        return rarely(30) ? "0" + digits : rarely(80) ? "000" + digits : digits;
    }

    private String statement(int people) {
        String x = " " + number(0, Math.max(0, people - 1));
        switch (random.nextInt(9)) {
            case 0: return "fare " + number(0, 6) + " " + number(0, 9);
            case 1: return "hours " + number(0, 6) + " " + number(1, 12);
            case 2: return "pay " + number(0, 6) + " " + number(0, 20);
            case 3: return "back " + number(0, 9);
            case 4: return "pass " + number(0, 6) + " " + number(0, 6) + " " + number(0, 9) + " " + number(1, 12);
            case 5: return "person " + number(0, 5) + " " + number(0, 9) + " " + number(0, 6);
            case 6: return "duty" + x + " " + number(0, 6);
            case 7: return "at" + x + " " + number(0, 6);
            default: return "purse" + x + " " + number(0, 999);
        }
    }

    private String landText() {
        StringBuilder b = new StringBuilder();
        int n = random.nextInt(7);
        int people = m.status(0);
        for (int i = 0; i <= n; i++) {
            if (i > 0) {
                b.append(rarely(30) ? " " : ";");
            }
            String s = statement(people);
            people += s.startsWith("person") ? 1 : 0;
            b.append(rarely(10) ? s.replace(" ", "  ") : rarely(10) ? s.replaceFirst(" ", "") : s);
        }
        if (rarely(6)) {
            b.setCharAt(random.nextInt(b.length()), "; 0a9Z\n-".charAt(random.nextInt(8)));
        }
        if (rarely(10)) {
            b.setLength(random.nextInt(b.length()));
        }
        if (rarely(10)) {
            b.append(' ');
        }
        return b.toString();
    }

    private void land() {
        tell(landText());
        same("land", x.land(), m.land());
    }

    /** A walk along STEPS, of which some STAMPS are left out and, rarely, one is wrong. */
    private void stamps(int s) {
        int n = random.nextInt(rarely(3) ? 41 : 8);
        int sort = random.nextInt(4);
        same("row", x.row(s, sort, n), m.row(s, sort, n));
        int start = random.nextInt(7);
        int at = start;
        for (int i = 0; i < n; i++) {
            int passes = m.status(1);
            int pass = passes == 0 ? -1 : random.nextInt(passes);
            if (pass >= 0 && m.passOf(pass, 0) == at && rarely(2)) {
                at = m.passOf(pass, 1);
            } else {
                at = (at + (rarely(2) ? 1 : 6)) % 7;
            }
            long stamp = rarely(2) ? -1 : rarely(60) ? random.nextInt(8) : at;
            if (sort == 3 && rarely(100)) {
                stamp += 1L << 32;
            }
            same("set", x.set(s, i, stamp), m.set(s, i, stamp));
        }
        for (int what = 0; what < 4; what++) {
            same("journeys " + what, x.journeys(s, n, start, what), m.journeys(s, n, start, what));
            int k = random.nextInt(n + 1);
            int v = pick(0, 6);
            same("journeys " + what, x.journeys(s, k, v, what), m.journeys(s, k, v, what));
        }
    }

    private void plan(int s) {
        int n = random.nextInt(rarely(4) ? 25 : 8);
        int sort = random.nextInt(4);
        same("row", x.row(s, sort, n), m.row(s, sort, n));
        int[] acts = {0, 0, 0, 1, 1, 8, 8, 8, 9, 2, 3, 4};
        for (int i = 0; i < n; i++) {
            long act = rarely(60) ? pick(-1, 10) : acts[random.nextInt(acts.length)];
            if (sort == 3 && rarely(100)) {
                act += 1L << 32;
            }
            same("set", x.set(s, i, act), m.set(s, i, act));
        }
        int p = someone();
        same("judge", x.judge(s, n, p), m.judge(s, n, p));
        int k = random.nextInt(n + 1);
        for (int what = 0; what < 5; what++) {
            same("behind", x.behind(s, k, p, what), m.behind(s, k, p, what));
        }
        if (rarely(2)) {
            same("done", x.done(s, k, p), m.done(s, k, p));
        }
    }

    private void shelves() {
        int s = shelf();
        int i = pick(0, 40);
        switch (random.nextInt(8)) {
            case 0: {
                int sort = pick(0, 4);
                int n = pick(0, 40);
                same("row", x.row(s, sort, n), m.row(s, sort, n));
                break;
            }
            case 1:
            case 2: {
                long v = rarely(3) ? random.nextLong() : random.nextInt(512) - 256;
                same("set", x.set(s, i, v), m.set(s, i, v));
                break;
            }
            case 3: {
                int q = shelf();
                int j = pick(0, 12);
                int n = pick(0, 12);
                same("copy", x.copy(s, q, i / 3, j, n), m.copy(s, q, i / 3, j, n));
                break;
            }
            case 4: {
                int p = rarely(5) ? -1 : someone();
                same("show", x.show(s, p), m.show(s, p));
                break;
            }
            case 5: {
                int kind = pick(0, 5);
                same("says", x.says(s, kind), m.says(s, kind));
                break;
            }
            case 6: same("element", x.element(s, i), m.element(s, i)); break;
            default: same("holds", x.holds(s), m.holds(s)); break;
        }
    }

    private void people() {
        int p = someone();
        int v = pick(0, 6);
        switch (random.nextInt(7)) {
            case 0: {
                int what = pick(0, 3);
                int to = pick(0, what == 2 ? 20 : 12);
                same("ask", x.ask(what == 3 ? 0 : v, what, to), m.ask(what == 3 ? 0 : v, what, to));
                break;
            }
            case 1: {
                int to = pick(0, 6);
                int fare = pick(0, 9);
                int hours = pick(1, 12);
                same("pass", x.pass(v, to, fare, hours), m.pass(v, to, fare, hours));
                break;
            }
            case 2: {
                int kind = pick(0, 5);
                int a = pick(0, 9);
                same("person", x.person(kind, a, v), m.person(kind, a, v));
                break;
            }
            case 3:
            case 4: {
                boolean is = !rarely(4);
                same("duty", x.duty(p, v, is), m.duty(p, v, is));
                break;
            }
            case 5: {
                int what = pick(0, 3);
                int to = pick(0, what == 1 ? 60 : what == 2 ? 20 : 6);
                same("tell", x.tell(p, what, to), m.tell(p, what, to));
                break;
            }
            default: {
                int what = pick(0, 7);
                same("personOf", x.personOf(p, what), m.personOf(p, what));
                same("valleyOf", x.valleyOf(v, what), m.valleyOf(v, what));
                same("passOf", x.passOf(v, what), m.passOf(v, what));
                break;
            }
        }
    }

    private void ways() {
        int p = someone();
        int q = someone();
        int v = pick(0, 6);
        int what = pick(0, 2);
        int step = pick(0, 4);
        int i = pick(-1, 6);
        int hours = rarely(5) ? pick(0, 999) : pick(0, 30);
        switch (random.nextInt(18)) {
            case 0: same("price", x.price(p, v, step), m.price(p, v, step)); break;
            case 1: same("way", x.way(p, v, what), m.way(p, v, what)); break;
            case 2: same("tour", x.tour(p, what), m.tour(p, what)); break;
            case 3: same("route", x.route(p, v, i), m.route(p, v, i)); break;
            case 4: same("tourOf", x.tourOf(p, i), m.tourOf(p, i)); break;
            case 5: same("saved", x.saved(what), m.saved(what)); break;
            case 6: same("bestPass", x.bestPass(), m.bestPass()); break;
            case 7: same("first", x.first(what), m.first(what)); break;
            case 8: same("works", x.works(p), m.works(p)); break;
            case 9: same("steps", x.steps(p, v), m.steps(p, v)); break;
            case 10: same("within", x.within(p, hours, what), m.within(p, hours, what)); break;
            case 11: same("crowd", x.crowd(), m.crowd()); break;
            case 12: same("ring", x.ring(p), m.ring(p)); break;
            case 13: same("dearest", x.dearest(p), m.dearest(p)); break;
            case 14: same("alike", x.alike(p, q), m.alike(p, q)); break;
            case 15: {
                int whose = rarely(3) ? -1 : p;
                same("homes", x.homes(whose), m.homes(whose));
                break;
            }
            case 16: same("market", x.market(), m.market()); break;
            default: same("meet", x.meet(what), m.meet(what)); break;
        }
    }

    private void deeds() {
        int p = someone();
        int v = rarely(4) ? random.nextInt() : random.nextInt(9);
        switch (random.nextInt(8)) {
            case 0: same("longest", x.longest(p), m.longest(p)); break;
            case 1:
            case 2: {
                int act = rarely(4) ? pick(0, 9) : rarely(2) ? 8 : pick(0, 4);
                same("act", x.act(p, act), m.act(p, act));
                break;
            }
            case 3: {
                int n = rarely(3) ? pick(1, 60) : pick(1, 4);
                same("weeks", x.weeks(n), m.weeks(n));
                break;
            }
            case 4: same("seed", x.seed(v), m.seed(v)); break;
            case 5: same("image", x.image(), m.image()); break;
            case 6: same("back", x.back(), m.back()); break;
            default: same("wipe", x.wipe(), m.wipe()); break;
        }
    }

    private void all() {
        for (int what = -1; what < 18; what++) {
            same("status " + what, x.status(what), m.status(what));
        }
        for (int p = 0; p < m.status(0); p++) {
            for (int what = 0; what < 8; what++) {
                same("personOf " + what, x.personOf(p, what), m.personOf(p, what));
            }
        }
        for (int s = 0; s < 8; s++) {
            same("holds", x.holds(s), m.holds(s));
            for (int i = random.nextInt(13); i < 40; i += 13) {
                same("element", x.element(s, i), m.element(s, i));
            }
        }
    }

    private void goOn() {
        while (calls < CALLS && !Due.anyWrong()) {
            switch (random.nextInt(calls < 60 ? 6 : 14)) {
                case 0:
                case 1:
                case 2:
                case 3: people(); break;
                case 4: if (rarely(3)) { land(); } break;
                case 5: shelves(); break;
                case 6: if (rarely(4)) { stamps(random.nextInt(8)); } break;
                case 7: if (rarely(4)) { plan(random.nextInt(8)); } break;
                case 8: deeds(); break;
                default: ways(); break;
            }
        }
        all();
        Due.is("run " + run + ": calls are 512 at most", calls <= 512 ? 1 : 0, 1);
    }

    public static void main(String[] args) {
        int runs = args.length > 0 ? Integer.parseInt(args[0]) : RUNS;
        for (int run = 0; run < runs && !Due.anyWrong(); run++) {
            new ModelTest(run).goOn();
        }
        Due.end("ModelTest, " + runs + " runs");
    }
}
