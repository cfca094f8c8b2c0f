import java.util.function.Supplier;

/** Counts answers that are not as due, and types, writes and reads for the tests. */
final class Checks {
    private static int wrong = 0;
    private static int all = 0;

    private Checks() {
    }

    static void due(String what, Object got, Object want) {
        all++;
        if (!want.equals(got)) {
            wrong++;
            System.out.println(what + " answered " + got + ", due is " + want);
        }
    }

    static void dueThrow(String what, Class<? extends RuntimeException> want, Supplier<?> call) {
        due(what, answer(call), "throws " + want.getSimpleName());
    }

    /**
     * What a call answers, or the exception that it throws. One that the Java machine or its library throws, not a
     * throw of the class itself, is told apart, though it be of the right kind.
     */
    static String answer(Supplier<?> call) {
        try {
            return String.valueOf(call.get());
        } catch (RuntimeException e) {
            StackTraceElement[] frames = e.getStackTrace();
            boolean isOwn = frames.length > 0 && frames[0].getClassName().startsWith("Housestyle");
            return "throws " + e.getClass().getSimpleName() + (isOwn ? "" : " by itself");
        }
    }

    /** Ends the program, with exit code 1 if an answer was not as due. */
    static void end(String test) {
        System.out.println(test + ": " + all + " answers, " + wrong + " not as due");
        System.exit(wrong == 0 && all > 0 ? 0 : 1);
    }

    static Housestyle with(String text) {
        Housestyle x = new Housestyle();
        write(x, x.length(), text, 0);
        return x;
    }

    static void write(Housestyle x, int place, String signs, int writer) {
        for (int i = 0; i < signs.length(); i++) {
            x.put(place + i, signs.charAt(i), writer);
        }
    }

    /** Wipes, and types signs. */
    static void type(Housestyle x, String signs) {
        x.wipe();
        for (int i = 0; i < signs.length(); i++) {
            x.type(signs.charAt(i));
        }
    }

    static int rule(Housestyle x, String pattern, char condition, boolean inQuotes, int rank) {
        type(x, pattern);
        return x.rule(condition, inQuotes, rank);
    }

    static int rule(Housestyle x, String pattern) {
        return rule(x, pattern, 'a', false, 5);
    }

    static int except(Housestyle x, int rule, String word) {
        type(x, word);
        return x.except(rule);
    }

    static int suggest(Housestyle x, int rule, String signs) {
        type(x, signs);
        return x.suggest(rule);
    }

    static int pair(Housestyle x, String words) {
        type(x, words);
        return x.pair();
    }

    static String textOf(Housestyle x) {
        StringBuilder text = new StringBuilder();
        for (int i = 0; i < x.length(); i++) {
            text.append(x.at(i));
        }
        return text.toString();
    }

    /** The findings of a desk as rule@place+length, with blanks between. */
    static String found(Housestyle x, int desk) {
        StringBuilder found = new StringBuilder();
        int count = x.findings(desk);
        for (int i = 0; i < count; i++) {
            found.append(i == 0 ? "" : " ").append(x.of(desk, i, 'r')).append('@').append(x.of(desk, i, 'f'))
                    .append('+').append(x.of(desk, i, 'l'));
        }
        return found.toString();
    }

    static String suggested(Housestyle x, int desk, int finding, int suggestion) {
        StringBuilder signs = new StringBuilder();
        int size = x.size(desk, finding, suggestion);
        for (int i = 0; i < size; i++) {
            signs.append(x.sign(desk, finding, suggestion, i));
        }
        return signs.toString();
    }

    /** What can be asked without a change, but for what is typed. */
    static String stateOf(Housestyle x) {
        StringBuilder state = new StringBuilder(textOf(x));
        for (int desk = 0; desk < 4; desk++) {
            state.append('|').append(found(x, desk)).append('|').append(x.ignored(desk));
        }
        return state.append('|').append(x.paragraphs()).toString();
    }
}
