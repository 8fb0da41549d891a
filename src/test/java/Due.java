/** Counts the answers that are not the ones that are due; each test ends with end(). */
final class Due {
    private static int asked = 0;
    private static int wrong = 0;
    private static int sentences = 0;

    private Due() {
    }

    static void is(String call, long got, long want) {
        asked++;
        if (got != want) {
            wrong++;
            System.out.println(call + " answered " + got + ", due is " + want);
        }
    }

    static boolean anyWrong() {
        return wrong > 0;
    }

    /** A sentence of the document (or a part of it that names one edge) and the test of its own that it has. */
    static void sentence(String words, Runnable test) {
        int askedAhead = asked;
        int wrongAhead = wrong;
        sentences++;
        test.run();
        is("whether anything was asked for: " + words, asked > askedAhead ? 1 : 0, 1);
        if (wrong > wrongAhead) {
            System.out.println("  so this is broken: " + words);
        }
    }

    /** A refusal's number, and that it was counted: status is told ahead of the call and behind it. */
    static void refused(SundayIsAPlace x, String call, long got, int want, int countAhead) {
        is(call, got, want);
        is("how many were refused so, behind " + call, x.status(10 - want), countAhead + 1);
    }

    static void text(SundayIsAPlace x, String text) {
        for (int i = 0; i < text.length(); i++) {
            x.feed(text.charAt(i));
        }
    }

    static int land(SundayIsAPlace x, String text) {
        text(x, text);
        return x.land();
    }

    static void put(SundayIsAPlace x, int s, int sort, long... elements) {
        is("row", x.row(s, sort, elements.length), 1);
        for (int i = 0; i < elements.length; i++) {
            is("set", x.set(s, i, elements[i]), 1);
        }
    }

    static void end(String name) {
        String of = sentences > 0 ? " to " + sentences + " sentences" : "";
        System.out.println(name + ": " + asked + " answers" + of + ", " + wrong + " not as due");
        if (wrong > 0) {
            System.exit(1);
        }
    }
}
