/** What the tests of the project share: counts and prints answers that are not the ones due. */
final class Checks {
    interface Call {
        Object answer();
    }

    private static int wrong = 0;
    private static int looked = 0;
    private static String sentence = "";

    private Checks() {
    }

    /** The document's sentence that the checks from here on look at. */
    static void sentence(String words) {
        sentence = "'" + words + "': ";
    }

    /** What a call answers, or throws.Name of the exception that it throws. */
    static String told(Call call) {
        try {
            return String.valueOf(call.answer());
        } catch (RuntimeException e) {
            return "throws." + e.getClass().getSimpleName();
        }
    }

    static void due(String what, Object want, Call call) {
        same(what, String.valueOf(want), told(call));
    }

    static void badArgument(String what, Call call) {
        same(what, "throws.IllegalArgumentException", told(call));
    }

    static void badState(String what, Call call) {
        same(what, "throws.IllegalStateException", told(call));
    }

    static void badIndex(String what, Call call) {
        same(what, "throws.IndexOutOfBoundsException", told(call));
    }

    static boolean same(String what, String want, String got) {
        looked++;
        if (want.equals(got)) {
            return true;
        }
        wrong++;
        System.out.println(sentence + what + " answered " + got + ", due is " + want);
        return false;
    }

    static void end() {
        System.out.println(looked + " answers, " + wrong + " not as due");
        if (wrong != 0 || looked == 0) {
            System.exit(1);
        }
    }
}
