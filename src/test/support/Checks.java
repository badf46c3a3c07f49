/** What the tests by hand share: texts come on the tape, answers and exceptions are compared with what is due. */
abstract class Checks {
    static final String MISSING = "NoSuchElementException";
    static final String WRONG = "IllegalArgumentException";
    static final String STATE = "IllegalStateException";
    static final int NONE = LineupDesk.NONE;
    private static int failures = 0;
    private static String sentence = "";

    interface Call {
        long run();
    }

    /** The document's sentence that the checks behind it are of. */
    static void says(String words) {
        sentence = words;
    }

    static void fail(String what) {
        failures++;
        System.out.println((sentence.isEmpty() ? "" : "[" + sentence + "] ") + what);
    }

    static void finish(String name) {
        System.out.println(name + (failures == 0 ? ": all as due" : ": " + failures + " not as due"));
        if (failures != 0) {
            System.exit(1);
        }
    }

    static void due(String name, long got, long want) {
        if (got != want) {
            fail(name + " answered " + got + ", due is " + want);
        }
    }

    static void thrown(String name, String want, Call call) {
        String got = "nothing";
        try {
            call.run();
        } catch (RuntimeException e) {
            got = e.getClass().getSimpleName();
        }
        if (!got.equals(want)) {
            fail(name + " threw " + got + ", due is " + want);
        }
    }

    static void feedAll(LineupDesk desk, String text) {
        for (int from = 0; from < text.length(); from += 20) {
            int[] numbers = new int[5];
            for (int k = 0; k < 20; k++) {
                int sign = from + k < text.length() ? text.charAt(from + k) : 0;
                numbers[k / 4] |= sign << 24 - 8 * (k % 4);
            }
            desk.feed(numbers[0], numbers[1], numbers[2], numbers[3], numbers[4]);
        }
    }

    static int tell(LineupDesk desk, String text) {
        feedAll(desk, text);
        return desk.text(text.length());
    }

    static LineupDesk desk(String text) {
        LineupDesk desk = new LineupDesk();
        int got = tell(desk, text);
        if (got < 0) {
            fail("refused text: " + text + " with " + got + " at " + desk.fault());
        }
        return desk;
    }

    static void fault(String text, int kind, int place) {
        LineupDesk desk = new LineupDesk();
        due("text of \"" + text + "\"", tell(desk, text), kind - 10);
        due("fault of \"" + text + "\"", desk.fault(), place);
    }

    static void fine(String text, int persons) {
        LineupDesk desk = new LineupDesk();
        due("text of \"" + text + "\"", tell(desk, text), persons);
        due("fault of \"" + text + "\"", desk.fault(), NONE);
    }

    static void fraction(String name, Call above, Call below, long wantAbove, long wantBelow) {
        due(name + " above", above.run(), wantAbove);
        due(name + " below", below.run(), wantBelow);
    }

    static void chances(LineupDesk d, int way, int person, boolean guilt, boolean blind, long above, long below) {
        fraction("chance(" + way + ", " + person + ", " + guilt + ", " + blind + ")",
                () -> d.chance(way, person, guilt, blind, 0), () -> d.chance(way, person, guilt, blind, 1), above, below);
    }

    static void oddsOf(LineupDesk d, int way, boolean blind, boolean picked, long above, long below) {
        fraction("odds(" + way + ", " + blind + ", " + picked + ")",
                () -> d.odds(way, blind, picked, 0), () -> d.odds(way, blind, picked, 1), above, below);
    }
}
