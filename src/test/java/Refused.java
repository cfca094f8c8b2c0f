import java.util.ArrayList;
import java.util.List;
import java.util.function.Function;
import java.util.function.Supplier;

/** Calls that are refused: by which exception, and that nothing has changed by it, whatever is asked behind it. */
final class Refused {
    private static final List<Function<Housestyle, String>> QUESTIONS = questions();

    private Refused() {
    }

    /**
     * One call on an object, made anew for each question; a twin of it, on which that call is not made, must answer
     * the question alike. What can't be asked without a change is so asked as well.
     */
    static void due(String what, Class<? extends RuntimeException> want, Supplier<Housestyle> made,
            Function<Housestyle, ?> call) {
        for (int i = 0; i < QUESTIONS.size(); i++) {
            Housestyle x = made.get();
            Checks.dueThrow(what, want, () -> call.apply(x));
            Checks.dueThrow(what + ", once more", want, () -> call.apply(x));
            String twin = QUESTIONS.get(i).apply(made.get());
            Checks.due(what + ", the question " + i + " behind it", QUESTIONS.get(i).apply(x), twin);
        }
    }

    private static List<Function<Housestyle, String>> questions() {
        List<Function<Housestyle, String>> questions = new ArrayList<>();
        questions.add(Refused::text);
        questions.add(Refused::reports);
        for (int desk = 0; desk < 4; desk++) {
            int asked = desk;
            questions.add(x -> findings(x, asked));
        }
        questions.add(Refused::changes);
        questions.add(Refused::howManyAreTyped);
        questions.add(Refused::typedAsRule);
        questions.add(Refused::typedAsSuggestion);
        questions.add(Refused::typedAsExceptionAndPair);
        questions.add(Refused::settings);
        questions.add(Refused::roomForRules);
        questions.add(Refused::roomForMore);
        questions.add(Refused::writers);
        questions.add(Refused::heeded);
        return questions;
    }

    private static String text(Housestyle x) {
        return Checks.textOf(x) + "," + x.paragraphs();
    }

    private static String reports(Housestyle x) {
        StringBuilder all = new StringBuilder();
        all.append(x.tokens(false)).append(',').append(x.tokens(true)).append(',').append(x.checksum()).append(',')
                .append(x.isSound()).append(',').append(Checks.answer(x::meanWord));
        for (int desk = 0; desk < 4; desk++) {
            int asked = desk;
            all.append(',').append(x.ignored(desk)).append(',').append(Checks.answer(() -> x.foundShare(asked)));
        }
        return all.toString();
    }

    private static String findings(Housestyle x, int desk) {
        StringBuilder all = new StringBuilder();
        int count = x.findings(desk);
        all.append(count);
        for (int i = 0; i < count && i < 4; i++) {
            for (char what : "flrkws".toCharArray()) {
                all.append(',').append(x.of(desk, i, what));
            }
            int suggestions = x.of(desk, i, 's');
            for (int k = 0; k < suggestions; k++) {
                all.append(',').append(Checks.suggested(x, desk, i, k));
            }
        }
        for (int rule = 0; rule <= 20; rule++) {
            all.append(',').append(x.byRule(desk, rule));
        }
        return all.toString();
    }

    private static String changes(Housestyle x) {
        return x.check(0) + "," + x.check(1) + "," + x.check(2) + "," + x.check(3);
    }

    private static String howManyAreTyped(Housestyle x) {
        return String.valueOf(x.wipe());
    }

    private static String typedAsRule(Housestyle x) {
        return Checks.answer(() -> x.rule('a', true, 9)) + "," + Checks.found(x, 2);
    }

    private static String typedAsSuggestion(Housestyle x) {
        return Checks.answer(() -> x.suggest(0)) + "," + findings(x, 2);
    }

    private static String typedAsExceptionAndPair(Housestyle x) {
        return Checks.answer(() -> x.except(0)) + "," + Checks.answer(x::pair) + "," + Checks.found(x, 2);
    }

    private static String settings(Housestyle x) {
        StringBuilder all = new StringBuilder();
        for (int desk = 0; desk < 4; desk++) {
            int asked = desk;
            for (int i = 0; i < 12; i++) {
                int rule = i;
                all.append(',').append(Checks.answer(() -> x.use(asked, rule, true)));
                all.append(',').append(Checks.answer(() -> x.rank(asked, rule, 0)));
            }
            all.append(',').append(x.limit(desk, 0));
        }
        return all.toString();
    }

    private static String roomForRules(Housestyle x) {
        StringBuilder all = new StringBuilder();
        for (int i = 0; i < 13; i++) {
            Checks.type(x, "zz");
            all.append(',').append(Checks.answer(() -> x.rule('a', true, 1)));
        }
        for (int i = 0; i < 5; i++) {
            Checks.type(x, "z y");
            all.append(',').append(Checks.answer(x::pair));
        }
        return all.toString();
    }

    private static String roomForMore(Housestyle x) {
        StringBuilder all = new StringBuilder();
        for (int i = 0; i < 12; i++) {
            int rule = i % 3;
            Checks.type(x, "zz");
            all.append(',').append(Checks.answer(() -> x.except(rule)));
            all.append(',').append(Checks.answer(() -> x.suggest(rule)));
            all.append(',').append(x.wipe());
        }
        return all.toString();
    }

    /** By whom the first signs of the first tokens came, also of those that no rule has found. */
    private static String writers(Housestyle x) {
        StringBuilder all = new StringBuilder();
        for (int desk = 1; desk <= 2; desk++) {
            Checks.type(x, desk == 1 ? "*" : "#");
            Checks.answer(() -> x.rule('a', true, 9));
            int count = x.findings(desk);
            for (int i = 0; i < count && i < 40; i++) {
                all.append(',').append(x.of(desk, i, 'w'));
            }
        }
        return all.toString();
    }

    private static String heeded(Housestyle x) {
        StringBuilder all = new StringBuilder();
        for (int desk = 0; desk < 4; desk++) {
            all.append(',').append(x.heed(desk)).append(',').append(Checks.found(x, desk));
        }
        return all.toString();
    }
}
