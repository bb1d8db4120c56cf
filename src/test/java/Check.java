/** What the tests of this folder share: answers that are due, and refusals that change nothing. */
final class Check {
    interface Call {
        Object answer();
    }

    private static int asked = 0;
    private static int wrong = 0;

    private Check() {
    }

    static void due(String what, long got, long due) {
        same(what, Long.toString(got), Long.toString(due));
    }

    static void same(String what, Object got, Object due) {
        asked++;
        if (!got.equals(due)) {
            wrong++;
            System.out.println(what + " answered " + got + ", due is " + due);
        }
    }

    /** The call must throw exactly this, and leave everything that can be asked as it was. */
    static void refuses(Recorded planner, String what, Class<?> due, Call call) {
        String rest = Answers.ofRest(planner.again());
        refusesButKeeps(planner, what, due, call);
        same(what + ": shelves, reasons and the like behind it", Answers.ofRest(planner.again()), rest);
    }

    /** As refuses, for calls that keep a reason, an error position or a refused entry. */
    static void refusesButKeeps(Recorded planner, String what, Class<?> due, Call call) {
        String world = Answers.ofWorld(planner.again());
        same(what, outcome(call), due.getSimpleName());
        same(what + ": the state behind it", Answers.ofWorld(planner.again()), world);
    }

    /** The answer of a call, or the name of the very class of what it throws. */
    static String outcome(Call call) {
        try {
            return String.valueOf(call.answer());
        } catch (RuntimeException e) {
            return e.getClass().getSimpleName();
        }
    }

    static void append(SparePlanner planner, String characters) {
        for (char character : characters.toCharArray()) {
            planner.append(character);
        }
    }

    /** Reads a text; the outcome is the number of entries or the name of the exception. */
    static String read(SparePlanner planner, String characters) {
        append(planner, characters);
        return outcome(planner::read);
    }

    static void append(Recorded planner, String characters) {
        for (char character : characters.toCharArray()) {
            planner.append(character);
        }
    }

    static String read(Recorded planner, String characters) {
        append(planner, characters);
        return outcome(planner::read);
    }

    static void end(String test) {
        System.out.println(test + ": " + asked + " answers, " + wrong + " not as due");
        if (wrong != 0 || asked == 0) {
            System.exit(1);
        }
    }
}
