import java.util.function.Supplier;

/** Long runs of mixed calls, each of which must answer as the plain model does. */
public final class RandomRunsTest {
    private static final int RUNS = 1500;
    private static final int CALLS_MOST = 512;
    private static final String[] PIECES = {"a", "b", "ab", "aba", "cat", "cats", "7", "12", "007", "3", " ", " ", " ",
        " ", ".", ". ", "\"", "/", "a b", "cat a", "\"a", " b\"", "19 cats"};
    private static final String[] ITEMS = {"a", "b", "ab", "a*", "*", "#", "cat*", "c*", "cats", "ca*"};
    private static final String[] WORDS = {"a", "b", "ab", "cat", "cats", "aba"};
    private static final String[] SUGGESTIONS = {"*", "a", "dog*", "*s 1", "a longer text of 20", "b b", "7", "*aaaaaaaaa"};
    private static final String SIGNS = "aabbc  \"/.7A*-";
    private static final String TYPED = "ab*#- 7A";

    private long seed;
    private int calls;
    private final Housestyle x = new Housestyle();
    private final Model m = new Model();
    private final String run;
    // Of twelve calls that work on a finding, how many apply a suggestion; a run of few fills up what is ignored.
    private final int applied;
    // A run at one desk mostly brings more of its calls together.
    private final boolean isAtOneDesk;

    private RandomRunsTest(int run) {
        this.run = "run " + run;
        applied = run % 4 * 3;
        isAtOneDesk = run % 3 == 0;
        seed = run * 7919L + 17;
    }

    private int upTo(int count) {
        seed = seed * 6364136223846793005L + 1442695040888963407L;
        return (int) ((seed >>> 33) % count);
    }

    private String one(String[] texts) {
        return texts[upTo(texts.length)];
    }

    private void same(String call, Supplier<?> got, Supplier<?> want) {
        if (calls < CALLS_MOST) {
            calls++;
            Checks.due(run + " call " + calls + ": " + call, Checks.answer(got), answer(want));
        }
    }

    private static String answer(Supplier<?> call) {
        try {
            return String.valueOf(call.get());
        } catch (RuntimeException e) {
            return "throws " + e.getClass().getSimpleName();
        }
    }

    private void put(int place, char sign, int writer) {
        same("put " + place + " " + sign, () -> x.put(place, sign, writer), () -> m.put(place, sign, writer));
    }

    private void write(int place, String signs) {
        int writer = upTo(4);
        for (int i = 0; i < signs.length(); i++) {
            put(place + i, signs.charAt(i), writer);
        }
    }

    private void type(String signs) {
        same("wipe", x::wipe, m::wipe);
        for (int i = 0; i < signs.length(); i++) {
            char sign = signs.charAt(i);
            same("type " + sign, () -> x.type(sign), () -> m.type(sign));
        }
    }

    private int someRule() {
        return upTo(20) == 0 ? upTo(25) - 2 : someOf(m.rules());
    }

    private int someDesk() {
        return upTo(15) == 0 ? upTo(9) - 2 : isAtOneDesk ? 2 : upTo(4);
    }

    /** One of as many, mostly; otherwise one just outside. */
    private int someOf(int count) {
        return count == 0 || upTo(12) == 0 ? upTo(count + 3) - 1 : upTo(count);
    }

    private int someFinding(int desk) {
        return someOf(desk >= 0 && desk < 4 ? m.findings(desk) : 0);
    }

    private int someSuggestion(int desk, int finding) {
        boolean isFound = desk >= 0 && desk < 4 && finding >= 0 && finding < m.findings(desk);
        return someOf(isFound ? m.of(desk, finding, 's') : 0);
    }

    private void addRule() {
        StringBuilder pattern = new StringBuilder(one(ITEMS));
        for (int i = upTo(upTo(12) == 0 ? 4 : 3); i > 0; i--) {
            pattern.append('-').append(one(ITEMS));
        }
        type(pattern.toString());
        char condition = "aaasmq".charAt(upTo(upTo(10) == 0 ? 6 : 5));
        boolean inQuotes = upTo(3) == 0;
        int rank = upTo(20) == 0 ? upTo(3) * 10 - 10 : 4 + upTo(3);
        same("rule " + pattern + condition + inQuotes + rank, () -> x.rule(condition, inQuotes, rank),
                () -> m.rule(condition, inQuotes, rank));
    }

    private void addSuggestion(int rule) {
        type(one(SUGGESTIONS));
        same("suggest " + rule, () -> x.suggest(rule), () -> m.suggest(rule));
    }

    private void addMore() {
        int rule = someRule();
        int kind = upTo(5);
        if (kind == 0) {
            type(one(WORDS));
            same("except " + rule, () -> x.except(rule), () -> m.except(rule));
        } else if (kind < 3) {
            addSuggestion(rule);
        } else {
            type(one(WORDS) + " " + one(WORDS));
            same("pair", x::pair, m::pair);
        }
    }

    private void addAnything() {
        type("");
        for (int i = upTo(upTo(6) == 0 ? 24 : 5); i > 0; i--) {
            char sign = TYPED.charAt(upTo(TYPED.length()));
            same("type " + sign, () -> x.type(sign), () -> m.type(sign));
        }
        int rule = someRule();
        same("rule", () -> x.rule('a', true, 5), () -> m.rule('a', true, 5));
        same("except " + rule, () -> x.except(rule), () -> m.except(rule));
        same("suggest " + rule, () -> x.suggest(rule), () -> m.suggest(rule));
        same("pair", x::pair, m::pair);
    }

    private void edit() {
        int length = m.length();
        int kind = upTo(5);
        if (kind == 0) {
            write(upTo(length + 1), one(PIECES));
        } else if (kind < 3) {
            put(upTo(length + 1) + (upTo(20) == 0 ? length : 0), SIGNS.charAt(upTo(SIGNS.length())),
                    upTo(20) == 0 ? 4 : upTo(4));
        } else {
            int place = upTo(length + 1) - (upTo(20) == 0 ? 1 : 0);
            same("take " + place, () -> x.take(place), () -> m.take(place));
        }
    }

    private void set() {
        int desk = someDesk();
        int rule = someRule();
        int kind = upTo(3);
        if (kind == 0) {
            boolean isUsed = upTo(3) > 0;
            same("use " + desk + " " + rule, () -> x.use(desk, rule, isUsed), () -> m.use(desk, rule, isUsed));
        } else if (kind == 1) {
            int rank = upTo(12) - 1;
            same("rank " + desk + " " + rule, () -> x.rank(desk, rule, rank), () -> m.rank(desk, rule, rank));
        } else {
            int limit = upTo(23) - 1;
            same("limit " + desk + " " + limit, () -> x.limit(desk, limit), () -> m.limit(desk, limit));
        }
    }

    private void work() {
        int desk = someDesk();
        int finding = someFinding(desk);
        int suggestion = someSuggestion(desk, finding);
        int kind = upTo(12);
        if (kind < applied) {
            int writer = upTo(30) == 0 ? 4 : upTo(4);
            same("apply " + desk + " " + finding + " " + suggestion, () -> x.apply(desk, finding, suggestion, writer),
                    () -> m.apply(desk, finding, suggestion, writer));
        } else if (kind < 11) {
            same("ignore " + desk + " " + finding, () -> x.ignore(desk, finding), () -> m.ignore(desk, finding));
        } else if (upTo(3) == 0) {
            same("heed " + desk, () -> x.heed(desk), () -> m.heed(desk));
        }
        same("ignored " + desk, () -> x.ignored(desk), () -> m.ignored(desk));
    }

    private void ask() {
        int desk = someDesk();
        int finding = someFinding(desk);
        int suggestion = someSuggestion(desk, finding);
        int place = upTo(6) - 1;
        int number = upTo(23) - 1;
        char what = "frlkwsx".charAt(upTo(7));
        same("findings " + desk, () -> x.findings(desk), () -> m.findings(desk));
        same("of " + desk + " " + finding + " " + what, () -> x.of(desk, finding, what),
                () -> m.of(desk, finding, what));
        same("size", () -> x.size(desk, finding, suggestion), () -> m.size(desk, finding, suggestion));
        same("sign", () -> x.sign(desk, finding, suggestion, place), () -> m.sign(desk, finding, suggestion, place));
        same("byRule", () -> x.byRule(desk, number), () -> m.byRule(desk, number));
        same("byWriter", () -> x.byWriter(desk, number % 5), () -> m.byWriter(desk, number % 5));
        same("foundShare", () -> x.foundShare(desk), () -> m.foundShare(desk));
    }

    private void report() {
        int desk = someDesk();
        same("checksum", x::checksum, m::checksum);
        same("check " + desk, () -> x.check(desk), () -> m.check(desk));
        same("paragraphs", x::paragraphs, m::paragraphs);
        same("tokens", () -> x.tokens(true), () -> m.tokens(true));
        same("tokens", () -> x.tokens(false), () -> m.tokens(false));
        same("meanWord", x::meanWord, m::meanWord);
        same("isSound", x::isSound, m::isSound);
        same("length", x::length, m::length);
        same("at", () -> x.at(desk), () -> m.at(desk));
    }

    private void go() {
        int pieces = upTo(70);
        for (int i = 0; i < pieces; i++) {
            write(m.length(), one(PIECES));
        }
        int rules = upTo(8);
        for (int i = 0; i < rules; i++) {
            addRule();
            addSuggestion(m.rules() - 1);
            addMore();
        }
        for (int step = 0; step < CALLS_MOST && calls < CALLS_MOST; step++) {
            int kind = upTo(20);
            if (kind < 5) {
                edit();
            } else if (kind < 7) {
                set();
            } else if (kind < 12) {
                work();
            } else if (kind < 16) {
                ask();
            } else if (kind < 18) {
                report();
            } else if (kind == 18) {
                addMore();
            } else if (upTo(2) == 0) {
                addRule();
            } else {
                addAnything();
            }
        }
    }

    public static void main(String[] args) {
        for (int run = 0; run < RUNS; run++) {
            new RandomRunsTest(run).go();
        }
        Checks.end("RandomRunsTest");
    }
}
