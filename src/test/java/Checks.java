import java.util.Set;
import java.util.TreeSet;
import java.util.function.BiFunction;
import java.util.function.Supplier;

/** Counts answers that are not as due, and types, writes and reads for the tests. */
final class Checks {
    private static int wrong = 0;
    private static int all = 0;

    private Checks() {
    }

    static int count() {
        return all;
    }

    static void due(String what, Object got, Object want) {
        all++;
        if (!want.equals(got)) {
            wrong++;
            System.out.println(what + " answered " + got + ", due is " + want);
        }
    }

    static void dueThrow(String what, Class<? extends RuntimeException> want, Supplier<?> call) {
        due(what, answer(call), "throws " + want.getSimpleName());
    }

    /**
     * What a call answers, or the exception that it throws. One that the Java machine or its library throws, not a
     * throw of the class itself, is told apart, though it be of the right kind.
     */
    static String answer(Supplier<?> call) {
        try {
            return String.valueOf(call.get());
        } catch (RuntimeException e) {
            StackTraceElement[] frames = e.getStackTrace();
            boolean isOwn = frames.length > 0 && frames[0].getClassName().startsWith("Housestyle");
            return "throws " + e.getClass().getSimpleName() + (isOwn ? "" : " by itself");
        }
    }

    /** All numbers near those that the document names, and those at which a narrower type would wrap around. */
    static Set<Integer> numbers() {
        Set<Integer> numbers = new TreeSet<>();
        for (int i = -30; i <= 200; i++) {
            numbers.add(i);
        }
        for (int bit = 7; bit < 32; bit++) {
            for (int i = -1; i <= 21; i++) {
                numbers.add((1 << bit) + i);
                numbers.add(i - (1 << bit));
            }
        }
        return numbers;
    }

    /** Of all numbers just those from the least to the most are taken; at the others the call is refused. */
    static void onlyFrom(String what, int least, int most, Class<? extends RuntimeException> otherwise,
            Supplier<Housestyle> made, BiFunction<Housestyle, Integer, ?> call) {
        for (int number : numbers()) {
            Housestyle x = made.get();
            dueTaken(what + " " + number, number >= least && number <= most, otherwise, () -> call.apply(x, number));
        }
    }

    /** Of all signs that there are just these are taken; at the others the call is refused. */
    static void onlySigns(String what, String signs, Class<? extends RuntimeException> otherwise,
            Supplier<Housestyle> made, BiFunction<Housestyle, Character, ?> call) {
        for (int number = 0; number <= Character.MAX_VALUE; number++) {
            char sign = (char) number;
            Housestyle x = made.get();
            dueTaken(what + " " + number, signs.indexOf(sign) >= 0, otherwise, () -> call.apply(x, sign));
        }
    }

    private static void dueTaken(String what, boolean isTaken, Class<? extends RuntimeException> otherwise,
            Supplier<?> call) {
        String answer = answer(call);
        if (isTaken) {
            due(what + " is taken, answer " + answer, answer.startsWith("throws"), false);
        } else {
            due(what, answer, "throws " + otherwise.getSimpleName());
        }
    }

    /** Ends the program, with exit code 1 if an answer was not as due. */
    static void end(String test) {
        System.out.println(test + ": " + all + " answers, " + wrong + " not as due");
        System.exit(wrong == 0 && all > 0 ? 0 : 1);
    }

    static Housestyle with(String text) {
        Housestyle x = new Housestyle();
        write(x, x.length(), text, 0);
        return x;
    }

    static void write(Housestyle x, int place, String signs, int writer) {
        for (int i = 0; i < signs.length(); i++) {
            x.put(place + i, signs.charAt(i), writer);
        }
    }

    /** Wipes, and types signs. */
    static void type(Housestyle x, String signs) {
        x.wipe();
        for (int i = 0; i < signs.length(); i++) {
            x.type(signs.charAt(i));
        }
    }

    static int rule(Housestyle x, String pattern, char condition, boolean inQuotes, int rank) {
        type(x, pattern);
        return x.rule(condition, inQuotes, rank);
    }

    static int rule(Housestyle x, String pattern) {
        return rule(x, pattern, 'a', false, 5);
    }

    static int except(Housestyle x, int rule, String word) {
        type(x, word);
        return x.except(rule);
    }

    static int suggest(Housestyle x, int rule, String signs) {
        type(x, signs);
        return x.suggest(rule);
    }

    static int pair(Housestyle x, String words) {
        type(x, words);
        return x.pair();
    }

    static String textOf(Housestyle x) {
        StringBuilder text = new StringBuilder();
        int length = x.length();
        for (int i = 0; i < length; i++) {
            text.append(x.at(i));
        }
        return text.toString();
    }

    /** The findings of a desk as rule@place+length, with blanks between. */
    static String found(Housestyle x, int desk) {
        StringBuilder found = new StringBuilder();
        int count = x.findings(desk);
        for (int i = 0; i < count; i++) {
            found.append(i == 0 ? "" : " ").append(x.of(desk, i, 'r')).append('@').append(x.of(desk, i, 'f'))
                    .append('+').append(x.of(desk, i, 'l'));
        }
        return found.toString();
    }

    static String suggested(Housestyle x, int desk, int finding, int suggestion) {
        StringBuilder signs = new StringBuilder();
        int size = x.size(desk, finding, suggestion);
        for (int i = 0; i < size; i++) {
            signs.append(x.sign(desk, finding, suggestion, i));
        }
        return signs.toString();
    }

    /** What can be asked without a change, but for what is typed. */
    static String stateOf(Housestyle x) {
        StringBuilder state = new StringBuilder(textOf(x));
        for (int desk = 0; desk < 4; desk++) {
            state.append('|').append(found(x, desk)).append('|').append(x.ignored(desk));
        }
        return state.append('|').append(x.paragraphs()).toString();
    }
}
