import java.util.LinkedHashMap;
import java.util.Map;
import java.util.function.Supplier;
import java.util.function.ToLongFunction;

/** Asks one of two objects made alike, and then looks at all that can be seen of both. */
final class Twins {
    private static final int FIRST_REFUSALS = 12;
    private static final int LAST_REFUSALS = 16;

    /** A call with one number of it left open. */
    interface Asked {
        long of(SundayIsAPlace x, int v);
    }

    private Twins() {
    }

    /** The call is refused so, that is counted, and nothing else is changed. */
    static void refuse(Supplier<SundayIsAPlace> made, String call, int want, ToLongFunction<SundayIsAPlace> asked) {
        refuseTo(made, made, call, want, want, asked);
    }

    /** The call answers so, which counts as that refusal, and then all is as it is of the other object made. */
    static void refuseTo(Supplier<SundayIsAPlace> made, Supplier<SundayIsAPlace> other, String call, int answer,
            int refusal, ToLongFunction<SundayIsAPlace> asked) {
        SundayIsAPlace x = made.get();
        Due.is(call, asked.applyAsLong(x), answer);
        Map<String, Long> due = look(other.get());
        due.merge("status " + (10 - refusal), 1L, Long::sum);
        compare(call, look(x), due);
    }

    /** The call answers so, and nothing is changed, nor counted among the REFUSALS. */
    static void keep(Supplier<SundayIsAPlace> made, String call, long want, ToLongFunction<SundayIsAPlace> asked) {
        SundayIsAPlace x = made.get();
        Due.is(call, asked.applyAsLong(x), want);
        compare(call, look(x), look(made.get()));
    }

    /** A number of a call may be low to high; the next ones, and those farthest off, are BAD. */
    static void number(Supplier<SundayIsAPlace> made, String call, int low, int high, Asked asked) {
        for (int v : new int[] {low, high}) {
            SundayIsAPlace x = made.get();
            int ahead = x.status(FIRST_REFUSALS);
            asked.of(x, v);
            Due.is(call + ", number " + v + ": refused as BAD", x.status(FIRST_REFUSALS) - ahead, 0);
        }
        for (int v : new int[] {low - 1, high + 1, Integer.MIN_VALUE, Integer.MAX_VALUE}) {
            refuse(made, call + ", number " + v, -2, x -> asked.of(x, v));
        }
    }

    private static void compare(String call, Map<String, Long> seen, Map<String, Long> due) {
        Due.is("behind " + call + ": how much is seen", seen.size(), due.size());
        for (Map.Entry<String, Long> e : due.entrySet()) {
            Due.is("behind " + call + ": " + e.getKey(), seen.getOrDefault(e.getKey(), Long.MIN_VALUE), e.getValue());
        }
    }

    /** At most 330 calls; what is on THE TAPE and what was kept come last, as looking at them changes all. */
    private static Map<String, Long> look(SundayIsAPlace x) {
        Map<String, Long> seen = new LinkedHashMap<>();
        for (int what = FIRST_REFUSALS; what <= LAST_REFUSALS; what++) {
            seen.put("status " + what, (long) x.status(what));
        }
        lookAtLand(x, "", seen);
        lookAtShelves(x, seen);
        seen.put("land", (long) x.land());
        seen.put("back", (long) x.back());
        lookAtLand(x, "behind back: ", seen);
        return seen;
    }

    private static void lookAtLand(SundayIsAPlace x, String when, Map<String, Long> seen) {
        for (int what = 0; what <= 8; what++) {
            seen.put(when + "status " + what, (long) x.status(what));
        }
        for (int what = 0; what < 4; what++) {
            for (int v = 0; v < 7; v++) {
                seen.put(when + "valleyOf " + v + " " + what, (long) x.valleyOf(v, what));
            }
            for (int pass = 0; pass < x.status(1); pass++) {
                seen.put(when + "passOf " + pass + " " + what, (long) x.passOf(pass, what));
            }
        }
        for (int person = 0; person < x.status(0); person++) {
            for (int what = 0; what < 8; what++) {
                seen.put(when + "personOf " + person + " " + what, (long) x.personOf(person, what));
            }
        }
    }

    private static void lookAtShelves(SundayIsAPlace x, Map<String, Long> seen) {
        for (int s = 0; s < 8; s++) {
            seen.put("holds " + s, (long) x.holds(s));
            for (int i = 0; i < (s == Scene.INTS ? 40 : 4); i++) {
                seen.put("element " + s + " " + i, x.element(s, i));
            }
        }
    }
}
