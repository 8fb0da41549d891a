import java.math.BigInteger;
import java.util.ArrayList;
import java.util.Arrays;
import java.util.List;
import java.util.regex.Matcher;
import java.util.regex.Pattern;

/**
 * The document once more, by other ways than the class goes: all is tried out, as slow as it may be.
 * ModelTest asks both the same.
 */
final class Model {
    static class Person {
        int kind;
        int a;
        int home;
        int at;
        int duty = 0;
        int purse = 20;
        int tired = 0;
        int age = 0;

        int price(int fare, boolean pass) {
            return fare;
        }

        int rested() {
            return 0;
        }

        Person twin() {
            Person p = make(kind, a, home);
            p.at = at;
            p.duty = duty;
            p.purse = purse;
            p.tired = tired;
            p.age = age;
            return p;
        }
    }

    static class Clerk extends Person {
        int price(int fare, boolean pass) {
            return super.price(fare, pass) >> 1;
        }
    }

    static class Priest extends Clerk {
        int price(int fare, boolean pass) {
            int p = super.price(fare, pass) - a;
            return p < 0 ? 0 : p;
        }
    }

    static class Restless extends Person {
        int price(int fare, boolean pass) {
            return super.price(fare, pass) + a;
        }

        int rested() {
            return tired >> 1;
        }
    }

    static class Smuggler extends Restless {
        int price(int fare, boolean pass) {
            return pass ? 0 : super.price(fare, pass);
        }
    }

    static class Stranger extends Person {
        int price(int fare, boolean pass) {
            return super.price(fare, pass) + super.price(fare, pass);
        }
    }

    private static final Class<?>[] KINDS =
        {Person.class, Clerk.class, Restless.class, Priest.class, Smuggler.class, Stranger.class};

    static Person make(int kind, int a, int home) {
        Person p;
        switch (kind) {
            case 0: p = new Person(); break;
            case 1: p = new Clerk(); break;
            case 2: p = new Restless(); break;
            case 3: p = new Priest(); break;
            case 4: p = new Smuggler(); break;
            default: p = new Stranger(); break;
        }
        p.kind = kind;
        p.a = a;
        p.home = home;
        p.at = home;
        return p;
    }

    static final class All {
        int[] fare = {1, 1, 1, 1, 1, 1, 1};
        int[] hours = {3, 3, 3, 3, 3, 3, 3};
        int[] pay = {4, 4, 4, 4, 4, 4, 4};
        int back = 2;
        List<int[]> passes = new ArrayList<>();
        List<Person> people = new ArrayList<>();
        int seed = 1;
        int acts = 0;

        All twin() {
            All t = new All();
            t.fare = fare.clone();
            t.hours = hours.clone();
            t.pay = pay.clone();
            t.back = back;
            for (int[] p : passes) {
                t.passes.add(p.clone());
            }
            for (Person p : people) {
                t.people.add(p.twin());
            }
            t.seed = seed;
            t.acts = acts;
            return t;
        }
    }

    private All all = new All();
    private All kept = null;
    private final Object[] shelves = new Object[8];
    private final int[] sorts = new int[8];
    private StringBuilder tape = new StringBuilder();
    private final int[] refusals = new int[7];

    private int no(int refusal) {
        refusals[-refusal]++;
        return refusal;
    }

    private static boolean in(int v, int low, int high) {
        return low <= v && v <= high;
    }

    private boolean isPerson(int p) {
        return in(p, 0, all.people.size() - 1);
    }

    private Person one(int p) {
        return all.people.get(p);
    }

    int row(int s, int sort, int n) {
        if (!in(s, 0, 7) || !in(sort, 0, 4) || !in(n, 0, 40)) {
            return no(-2);
        }
        shelves[s] = new long[n];
        sorts[s] = sort;
        return 1;
    }

    private int noRow(int s) {
        if (shelves[s] instanceof Integer) {
            return -3;
        }
        return shelves[s] == null ? -4 : 0;
    }

    int set(int s, int i, long v) {
        if (!in(s, 0, 7)) {
            return no(-2);
        }
        if (noRow(s) != 0) {
            return no(noRow(s));
        }
        long[] row = (long[]) shelves[s];
        if (!in(i, 0, row.length - 1)) {
            return no(-2);
        }
        long bits = v;
        if (sorts[s] == 4) {
            bits = v == 0 ? 0 : 1;
        } else if (sorts[s] < 3) {
            int off = 64 - (8 << sorts[s]);
            bits = v << off >> off;
        }
        row[i] = bits;
        return 1;
    }

    int copy(int p, int q, int i, int j, int n) {
        if (!in(p, 0, 7) || !in(q, 0, 7)) {
            return no(-2);
        }
        if (noRow(p) == -3 || noRow(q) == -3) {
            return no(-3);
        }
        if (noRow(p) == 0 && noRow(q) == 0 && sorts[p] != sorts[q]) {
            return no(-3);
        }
        if (noRow(p) == -4 || noRow(q) == -4) {
            return no(-4);
        }
        long[] a = (long[]) shelves[p];
        long[] b = (long[]) shelves[q];
        if (i < 0 || j < 0 || n < 0 || (long) i + n > a.length || (long) j + n > b.length) {
            return no(-2);
        }
        long[] were = a.clone();
        for (int k = 0; k < n; k++) {
            b[j + k] = were[i + k];
        }
        return n;
    }

    long element(int s, int i) {
        if (!in(s, 0, 7) || noRow(s) != 0) {
            return 0;
        }
        long[] row = (long[]) shelves[s];
        return in(i, 0, row.length - 1) ? row[i] : 0;
    }

    int holds(int s) {
        if (!in(s, 0, 7) || shelves[s] == null) {
            return -1;
        }
        return shelves[s] instanceof Integer ? 10 + (Integer) shelves[s] : sorts[s];
    }

    int show(int s, int person) {
        if (!in(s, 0, 7) || (person != -1 && !isPerson(person))) {
            return no(-2);
        }
        shelves[s] = person == -1 ? null : Integer.valueOf(person);
        return 1;
    }

    int says(int s, int kind) {
        if (!in(s, 0, 7) || !in(kind, 0, 5)) {
            return no(-2);
        }
        if (shelves[s] instanceof long[]) {
            return no(-3);
        }
        if (shelves[s] == null) {
            return no(-4);
        }
        Person p = one((Integer) shelves[s]);
        if (!KINDS[kind].isInstance(p)) {
            return no(-3);
        }
        return kind == 0 ? p.a : p.price(all.fare[p.at], false);
    }

    int ask(int valley, int what, int v) {
        if (!in(valley, 0, 6) || !in(what, 0, 3) || (what == 3 && valley != 0)) {
            return no(-2);
        }
        int low = what == 1 ? 1 : 0;
        int high = what == 1 ? 12 : what == 2 ? 20 : 9;
        if (!in(v, low, high)) {
            return no(-2);
        }
        int was;
        if (what == 3) {
            was = all.back;
            all.back = v;
            return was;
        }
        int[] facts = what == 0 ? all.fare : what == 1 ? all.hours : all.pay;
        was = facts[valley];
        facts[valley] = v;
        return was;
    }

    int pass(int from, int to, int fare, int hours) {
        if (!in(from, 0, 6) || !in(to, 0, 6) || from == to || !in(fare, 0, 9) || !in(hours, 1, 12)) {
            return no(-2);
        }
        if (all.passes.size() == 3) {
            return no(-6);
        }
        all.passes.add(new int[] {from, to, fare, hours});
        return all.passes.size() - 1;
    }

    int person(int kind, int a, int home) {
        if (!in(kind, 0, 5) || !in(a, 0, 9) || !in(home, 0, 6)) {
            return no(-2);
        }
        if (all.people.size() == 6) {
            return no(-6);
        }
        all.people.add(make(kind, a, home));
        return all.people.size() - 1;
    }

    int duty(int person, int valley, boolean is) {
        if (!isPerson(person) || !in(valley, 0, 6)) {
            return no(-2);
        }
        Person p = one(person);
        int was = p.duty >> valley & 1;
        if (was != (is ? 1 : 0)) {
            p.duty ^= 1 << valley;
        }
        return was;
    }

    int tell(int person, int what, int v) {
        int[] most = {6, 999, 20, 6};
        if (!isPerson(person) || !in(what, 0, 3) || !in(v, 0, most[what])) {
            return no(-2);
        }
        Person p = one(person);
        int[] was = {p.at, p.purse, p.tired, p.home};
        switch (what) {
            case 0: p.at = v; break;
            case 1: p.purse = v; break;
            case 2: p.tired = v; break;
            default: p.home = v; break;
        }
        return was[what];
    }

    int feed(int letter) {
        if (!in(letter, 0, 255)) {
            return no(-2);
        }
        if (tape.length() == 250) {
            return no(-6);
        }
        tape.append((char) letter);
        return tape.length();
    }

    int wipe() {
        int was = tape.length();
        tape = new StringBuilder();
        return was;
    }

    /** Tells by a thrown Fault where the text can't go on. */
    private static final class Fault extends Exception {
        private static final long serialVersionUID = 1L;
        final int place;

        Fault(int place) {
            super("fault");
            this.place = place;
        }
    }

    private static final class Words {
        final List<String> tokens = new ArrayList<>();
        final List<Integer> places = new ArrayList<>();
        int i = 0;

        Words(String text) {
            Matcher m = Pattern.compile(" +|[a-z]+|[0-9]+|;|.", Pattern.DOTALL).matcher(text);
            while (m.find()) {
                if (!m.group().startsWith(" ")) {
                    tokens.add(m.group());
                    places.add(m.start());
                }
            }
            tokens.add("");
            places.add(text.length());
        }

        String token() {
            return tokens.get(i);
        }

        int place() {
            return places.get(i);
        }

        int number(int low, int high) throws Fault {
            String t = token();
            if (!t.matches("[0-9]{1,3}") || !in(Integer.parseInt(t), low, high)) {
                throw new Fault(place());
            }
            i++;
            return Integer.parseInt(t);
        }
    }

    private static void statement(All a, Words w) throws Fault {
        String word = w.token();
        int place = w.place();
        if (!Arrays.asList("fare", "hours", "pay", "back", "pass", "person", "duty", "at", "purse").contains(word)
                || (word.equals("pass") && a.passes.size() == 3)
                || (word.equals("person") && a.people.size() == 6)) {
            throw new Fault(place);
        }
        w.i++;
        int n;
        Person p;
        switch (word) {
            case "fare": n = w.number(0, 6); a.fare[n] = w.number(0, 9); break;
            case "hours": n = w.number(0, 6); a.hours[n] = w.number(1, 12); break;
            case "pay": n = w.number(0, 6); a.pay[n] = w.number(0, 20); break;
            case "back": a.back = w.number(0, 9); break;
            case "pass": {
                int from = w.number(0, 6);
                int toPlace = w.place();
                int to = w.number(0, 6);
                if (to == from) {
                    throw new Fault(toPlace);
                }
                int f = w.number(0, 9);
                a.passes.add(new int[] {from, to, f, w.number(1, 12)});
                break;
            }
            case "person": {
                int kind = w.number(0, 5);
                int own = w.number(0, 9);
                a.people.add(make(kind, own, w.number(0, 6)));
                break;
            }
            default:
                p = a.people.isEmpty() ? null : a.people.get(0);
                int x = w.number(0, a.people.size() - 1);
                p = a.people.get(x);
                switch (word) {
                    case "duty": p.duty |= 1 << w.number(0, 6); break;
                    case "at": p.at = w.number(0, 6); break;
                    default: p.purse = w.number(0, 999); break;
                }
        }
    }

    int land() {
        Words w = new Words(tape.toString());
        tape = new StringBuilder();
        All draft = all.twin();
        int count = 0;
        try {
            while (true) {
                statement(draft, w);
                count++;
                if (w.token().isEmpty()) {
                    break;
                }
                if (!w.token().equals(";")) {
                    throw new Fault(w.place());
                }
                w.i++;
            }
        } catch (Fault f) {
            no(-2);
            return -20 - f.place;
        }
        all = draft;
        return count;
    }

    int valleyOf(int valley, int what) {
        if (!in(valley, 0, 6) || !in(what, 0, 3)) {
            return no(-2);
        }
        int there = 0;
        for (Person p : all.people) {
            there += p.at == valley ? 1 : 0;
        }
        return new int[] {all.fare[valley], all.hours[valley], all.pay[valley], there}[what];
    }

    int passOf(int pass, int what) {
        if (!in(pass, 0, all.passes.size() - 1) || !in(what, 0, 3)) {
            return no(-2);
        }
        return all.passes.get(pass)[what];
    }

    int personOf(int person, int what) {
        if (!isPerson(person) || !in(what, 0, 7)) {
            return no(-2);
        }
        Person p = one(person);
        return new int[] {p.kind, p.a, p.home, p.at, p.duty, p.purse, p.tired, p.age}[what];
    }

    /** From, to, fare, hours, the age it costs, the STEP's number. */
    private static List<int[]> steps(All a) {
        List<int[]> list = new ArrayList<>();
        for (int v = 0; v < 7; v++) {
            int next = v == 6 ? 0 : v + 1;
            list.add(new int[] {v, next, a.fare[v], a.hours[v], 1, 0});
            list.add(new int[] {next, v, a.fare[v] + a.back, a.hours[v], 0, 1});
        }
        for (int i = 0; i < a.passes.size(); i++) {
            int[] p = a.passes.get(i);
            list.add(new int[] {p[0], p[1], p[2], p[3], 0, 2 + i});
        }
        return list;
    }

    private int[] stepFrom(int valley, int step) {
        for (int[] s : steps(all)) {
            if (s[0] == valley && s[5] == step) {
                return s;
            }
        }
        return null;
    }

    private static int cost(Person p, int[] step, int what) {
        switch (what) {
            case 0: return p.price(step[2], step[5] >= 2);
            case 1: return step[3];
            case 2: return step[4];
            default: return 1;
        }
    }

    private int[] least(Person p, int from, int what) {
        int[] least = new int[7];
        Arrays.fill(least, 9999);
        least[from] = 0;
        for (boolean better = true; better;) {
            better = false;
            for (int[] s : steps(all)) {
                int c = least[s[0]] + cost(p, s, what);
                if (c < least[s[1]]) {
                    least[s[1]] = c;
                    better = true;
                }
            }
        }
        return least;
    }

    /** By states: where one is, and which VALLEYS one was in. */
    private static int tourBy(List<int[]> steps, Person p, int from, int home) {
        int[][] least = new int[128][7];
        for (int[] l : least) {
            Arrays.fill(l, 9999);
        }
        least[1 << from][from] = 0;
        for (boolean better = true; better;) {
            better = false;
            for (int been = 0; been < 128; been++) {
                for (int[] s : steps) {
                    int c = least[been][s[0]] + cost(p, s, 0);
                    int then = been | 1 << s[1];
                    if (c < least[then][s[1]]) {
                        least[then][s[1]] = c;
                        better = true;
                    }
                }
            }
        }
        int best = 9999;
        for (int been = 0; been < 128; been++) {
            if ((been & p.duty) == p.duty) {
                best = Math.min(best, least[been][home]);
            }
        }
        return best;
    }

    private int tourOfOne(Person p) {
        return tourBy(steps(all), p, p.at, p.home);
    }

    int price(int person, int valley, int step) {
        if (!isPerson(person) || !in(valley, 0, 6) || !in(step, 0, 4)) {
            return no(-2);
        }
        int[] s = stepFrom(valley, step);
        return s == null ? no(-5) : cost(one(person), s, 0);
    }

    int way(int person, int valley, int what) {
        if (!isPerson(person) || !in(valley, 0, 6) || !in(what, 0, 2)) {
            return no(-2);
        }
        return least(one(person), one(person).at, what)[valley];
    }

    int tour(int person, int what) {
        if (!isPerson(person) || !in(what, 0, 1)) {
            return no(-2);
        }
        int t = tourOfOne(one(person));
        return what == 0 ? t : one(person).purse >= t ? 1 : 0;
    }

    /** All rows of STEPS of one length, the first first; ends with the first that fits. */
    private boolean walk(Person p, int at, int goal, int left, int money, List<Integer> row) {
        if (left == 0) {
            return at == goal && money == 0;
        }
        for (int step = 0; step < 5; step++) {
            int[] s = stepFrom(at, step);
            if (s != null && cost(p, s, 0) <= money) {
                row.add(step);
                if (walk(p, s[1], goal, left - 1, money - cost(p, s, 0), row)) {
                    return true;
                }
                row.remove(row.size() - 1);
            }
        }
        return false;
    }

    int route(int person, int valley, int i) {
        if (!isPerson(person) || !in(valley, 0, 6) || i < -1) {
            return no(-2);
        }
        Person p = one(person);
        int money = least(p, p.at, 0)[valley];
        List<Integer> row = new ArrayList<>();
        int length = 0;
        while (!walk(p, p.at, valley, length, money, row)) {
            length++;
        }
        return i == -1 ? length : i < length ? row.get(i) : no(-5);
    }

    private void orders(Person p, int at, int set, int paid, List<Integer> row, List<Object> best) {
        if (set == 0) {
            int sum = paid + least(p, at, 0)[p.home];
            if (best.isEmpty() || sum < (Integer) best.get(0)) {
                best.clear();
                best.add(sum);
                best.add(new ArrayList<>(row));
            }
            return;
        }
        int[] least = least(p, at, 0);
        for (int v = 0; v < 7; v++) {
            if ((set >> v & 1) == 1) {
                row.add(v);
                orders(p, v, set ^ 1 << v, paid + least[v], row, best);
                row.remove(row.size() - 1);
            }
        }
    }

    int tourOf(int person, int i) {
        if (!isPerson(person) || i < -1) {
            return no(-2);
        }
        Person p = one(person);
        List<Object> best = new ArrayList<>();
        orders(p, p.at, p.duty & ~(1 << p.at), 0, new ArrayList<>(), best);
        List<?> row = (List<?>) best.get(1);
        return i == -1 ? row.size() : i < row.size() ? (Integer) row.get(i) : no(-5);
    }

    private int savedBy(int pass) {
        List<int[]> with = steps(all);
        List<int[]> without = new ArrayList<>();
        for (int[] s : with) {
            if (s[5] != pass + 2) {
                without.add(s);
            }
        }
        int sum = 0;
        for (Person p : all.people) {
            sum += tourBy(without, p, p.at, p.home) - tourBy(with, p, p.at, p.home);
        }
        return sum;
    }

    int saved(int pass) {
        return in(pass, 0, all.passes.size() - 1) ? savedBy(pass) : no(-2);
    }

    int bestPass() {
        int best = -1;
        for (int i = 0; i < all.passes.size(); i++) {
            if (best == -1 || savedBy(i) > savedBy(best)) {
                best = i;
            }
        }
        return best == -1 ? no(-5) : best;
    }

    int first(int what) {
        if (!in(what, 0, 2)) {
            return no(-2);
        }
        if (all.people.isEmpty()) {
            return no(-5);
        }
        int best = 0;
        for (int i = 0; i < all.people.size(); i++) {
            Person p = one(i);
            Person q = one(best);
            int more = what == 0 ? p.purse - q.purse : what == 1 ? p.tired - q.tired : p.age - q.age;
            if (more > 0) {
                best = i;
            }
        }
        return best;
    }

    int works(int person) {
        if (!isPerson(person)) {
            return no(-2);
        }
        Person p = one(person).twin();
        int t = tourOfOne(p);
        for (int n = 0; n <= 1000; n++) {
            if (p.purse >= t) {
                return n;
            }
            if (p.at != 6) {
                p.purse = Math.min(999, p.purse + all.pay[p.at]);
            }
        }
        return -1;
    }

    int steps(int person, int valley) {
        if (!isPerson(person) || !in(valley, 0, 6)) {
            return no(-2);
        }
        return least(one(person), one(person).at, 3)[valley];
    }

    int within(int person, int v, int what) {
        if (!isPerson(person) || !in(v, 0, 999) || !in(what, 0, 1)) {
            return no(-2);
        }
        int set = 0;
        int[] least = least(one(person), one(person).at, 1 - what);
        for (int i = 0; i < 7; i++) {
            set |= least[i] <= v ? 1 << i : 0;
        }
        return set;
    }

    int crowd() {
        int[] there = new int[7];
        for (Person p : all.people) {
            there[p.at]++;
        }
        return firstGreatest(there, 1);
    }

    private static int firstGreatest(int[] of, int sign) {
        int best = 0;
        for (int i = 0; i < of.length; i++) {
            if (of[i] * sign > of[best] * sign) {
                best = i;
            }
        }
        return best;
    }

    int ring(int person) {
        if (!isPerson(person)) {
            return no(-2);
        }
        int sum = 0;
        for (int f : all.fare) {
            sum += one(person).price(f, false);
        }
        return sum;
    }

    int dearest(int person) {
        if (!isPerson(person)) {
            return no(-2);
        }
        Person p = one(person);
        int best = 0;
        for (int step = 1; step < 5; step++) {
            int[] s = stepFrom(p.at, step);
            if (s != null && cost(p, s, 0) > cost(p, stepFrom(p.at, best), 0)) {
                best = step;
            }
        }
        return best;
    }

    int alike(int person, int other) {
        if (!isPerson(person) || !isPerson(other) || person == other) {
            return no(-2);
        }
        int[] a = least(one(person), one(person).at, 0);
        int[] b = least(one(other), one(other).at, 0);
        int set = 0;
        for (int i = 0; i < 7; i++) {
            set |= a[i] == b[i] ? 1 << i : 0;
        }
        return set;
    }

    private void settle(int person, int[] homes, int sum, int[][] costs, int[] best) {
        if (person == homes.length) {
            if (sum < best[0]) {
                best[0] = sum;
                System.arraycopy(homes, 0, best, 1, homes.length);
            }
            return;
        }
        for (int v = 0; v < 7; v++) {
            boolean free = true;
            for (int i = 0; i < person; i++) {
                free &= homes[i] != v;
            }
            if (free) {
                homes[person] = v;
                settle(person + 1, homes, sum + costs[person][v], costs, best);
            }
        }
    }

    int homes(int person) {
        if (person != -1 && !isPerson(person)) {
            return no(-2);
        }
        int n = all.people.size();
        if (n == 0) {
            return no(-5);
        }
        int[][] costs = new int[n][7];
        for (int i = 0; i < n; i++) {
            for (int v = 0; v < 7; v++) {
                costs[i][v] = tourBy(steps(all), one(i), v, v);
            }
        }
        int[] best = new int[n + 1];
        best[0] = Integer.MAX_VALUE;
        settle(0, new int[n], 0, costs, best);
        return best[person + 1];
    }

    int market() {
        int[] sums = new int[7];
        for (Person p : all.people) {
            for (int v = 0; v < 7; v++) {
                sums[v] += least(p, p.at, 0)[v];
            }
        }
        return firstGreatest(sums, -1);
    }

    int meet(int what) {
        if (!in(what, 0, 1)) {
            return no(-2);
        }
        int[] most = new int[7];
        for (Person p : all.people) {
            for (int v = 0; v < 7; v++) {
                most[v] = Math.max(most[v], least(p, p.at, 1)[v]);
            }
        }
        int best = firstGreatest(most, -1);
        return what == 0 ? best : most[best];
    }

    private BigInteger[] counts(long[] row, int n, int from) {
        BigInteger[] at = new BigInteger[7];
        Arrays.fill(at, BigInteger.ZERO);
        at[from] = BigInteger.ONE;
        for (int i = 0; i < n; i++) {
            BigInteger[] then = new BigInteger[7];
            Arrays.fill(then, BigInteger.ZERO);
            for (int[] s : steps(all)) {
                if (row[i] == -1 || row[i] == s[1]) {
                    then[s[1]] = then[s[1]].add(at[s[0]]);
                }
            }
            at = then;
        }
        return at;
    }

    private BigInteger sum(long[] row, int n, int from) {
        BigInteger sum = BigInteger.ZERO;
        for (BigInteger b : counts(row, n, from)) {
            sum = sum.add(b);
        }
        return sum;
    }

    private int noElements(int s, int n) {
        if (!in(s, 0, 7) || !in(n, 0, 40)) {
            return -2;
        }
        if (noRow(s) != 0) {
            return noRow(s);
        }
        return ((long[]) shelves[s]).length < n ? -2 : 0;
    }

    int journeys(int s, int n, int valley, int what) {
        if (!in(valley, 0, 6) || !in(what, 0, 3)) {
            return no(-2);
        }
        if (noElements(s, n) != 0) {
            return no(noElements(s, n));
        }
        long[] row = ((long[]) shelves[s]).clone();
        for (int i = 0; i < n; i++) {
            if (row[i] < -1 || row[i] > 6) {
                return no(-5);
            }
        }
        if (what == 0) {
            return sum(row, n, valley).min(BigInteger.valueOf(1000000)).intValue();
        }
        if (what == 1) {
            int set = 0;
            for (int v = 0; v < 7; v++) {
                set |= counts(row, n, valley)[v].signum() << v;
            }
            return set;
        }
        if (what == 2) {
            for (int i = 0; i < n; i++) {
                if (sum(row, i + 1, valley).signum() == 0) {
                    return i;
                }
            }
            return -1;
        }
        int sure = 0;
        for (int i = 0; i < n; i++) {
            int may = 0;
            if (row[i] == -1) {
                for (int v = 0; v < 7; v++) {
                    row[i] = v;
                    may += sum(row, n, valley).signum();
                }
                row[i] = -1;
            }
            sure += may == 1 ? 1 : 0;
        }
        return sure;
    }

    private boolean does(Person p, long act) {
        if (act == 8) {
            if (p.at == 6 || p.tired > 18) {
                return false;
            }
            p.purse = Math.min(999, p.purse + all.pay[p.at]);
            p.tired += 2;
            return true;
        }
        if (act == 9) {
            if (p.at != 6) {
                return false;
            }
            p.tired = p.rested();
            return true;
        }
        int[] s = act < 0 || act > 4 ? null : stepFrom(p.at, (int) act);
        if (s == null || p.tired > 19 || p.purse < cost(p, s, 0)) {
            return false;
        }
        p.purse -= cost(p, s, 0);
        p.tired++;
        p.age = Math.min(999, p.age + s[4]);
        p.at = s[1];
        return true;
    }

    private int wrong(Person p, int s, int n, int[] lazy) {
        long[] row = (long[]) shelves[s];
        for (int i = 0; i < n; i++) {
            if (!does(p, row[i])) {
                return i;
            }
            if (p.tired >= 15 && lazy[0] == -1) {
                lazy[0] = i;
            }
        }
        return -1;
    }

    int judge(int s, int n, int person) {
        if (!isPerson(person)) {
            return no(-2);
        }
        if (noElements(s, n) != 0) {
            return no(noElements(s, n));
        }
        return wrong(one(person).twin(), s, n, new int[] {-1});
    }

    int behind(int s, int n, int person, int what) {
        if (!isPerson(person) || !in(what, 0, 4)) {
            return no(-2);
        }
        if (noElements(s, n) != 0) {
            return no(noElements(s, n));
        }
        int[] lazy = {-1};
        Person p = one(person).twin();
        if (wrong(p, s, n, lazy) != -1) {
            return no(-5);
        }
        return new int[] {p.at, p.purse, p.tired, p.age, lazy[0]}[what];
    }

    int done(int s, int n, int person) {
        if (!isPerson(person)) {
            return no(-2);
        }
        if (noElements(s, n) != 0) {
            return no(noElements(s, n));
        }
        Person p = one(person).twin();
        if (wrong(p, s, n, new int[] {-1}) != -1) {
            return no(-5);
        }
        all.people.set(person, p);
        all.acts += n;
        return p.at;
    }

    int longest(int person) {
        if (!isPerson(person)) {
            return no(-2);
        }
        Person p = one(person).twin();
        int n = 0;
        while (does(p, 8)) {
            n++;
        }
        return n;
    }

    int act(int person, int act) {
        if (!isPerson(person) || !(in(act, 0, 4) || in(act, 8, 9))) {
            return no(-2);
        }
        if (!does(one(person), act)) {
            return no(-5);
        }
        all.acts++;
        return one(person).at;
    }

    int weeks(int n) {
        if (!in(n, 1, 60)) {
            return no(-2);
        }
        int count = 0;
        for (int week = 0; week < n; week++) {
            for (Person p : all.people) {
                all.seed = (int) (all.seed * 1103515245L + 12345L);
                int draw = (int) ((all.seed & 0xFFFFFFFFL) / 65536 % 6);
                if (does(p, draw < 5 ? draw : p.at == 6 ? 9 : 8)) {
                    count++;
                }
            }
        }
        all.acts += count;
        return count;
    }

    int seed(int v) {
        int was = all.seed;
        all.seed = v;
        return was;
    }

    int image() {
        kept = all.twin();
        return 1;
    }

    int back() {
        if (kept == null) {
            return no(-5);
        }
        all = kept.twin();
        for (int s = 0; s < 8; s++) {
            if (shelves[s] instanceof Integer && !isPerson((Integer) shelves[s])) {
                shelves[s] = null;
            }
        }
        return 1;
    }

    int status(int what) {
        int purses = 0;
        int ages = 0;
        for (Person p : all.people) {
            purses += p.purse;
            ages += p.age;
        }
        int hold = 0;
        for (Object o : shelves) {
            hold += o == null ? 0 : 1;
        }
        switch (what) {
            case 0: return all.people.size();
            case 1: return all.passes.size();
            case 2: return all.back;
            case 3: return purses;
            case 4: return ages;
            case 5: return all.acts;
            case 6: return tape.length();
            case 7: return all.seed;
            case 8: return hold;
            default: return in(what, 12, 16) ? refusals[what - 10] : -1;
        }
    }
}
