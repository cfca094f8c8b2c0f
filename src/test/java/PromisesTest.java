import java.io.IOException;
import java.math.BigInteger;
import java.util.NoSuchElementException;

/**
 * A test for each line of the promises on what a call does, takes and returns: the smallest and the largest that it
 * takes, and the next one outside on each side.
 */
public final class PromisesTest {
    private static final Class<IllegalArgumentException> ARGUMENT = IllegalArgumentException.class;
    private static final Class<IndexOutOfBoundsException> INDEX = IndexOutOfBoundsException.class;
    private static final Class<NoSuchElementException> ELEMENT = NoSuchElementException.class;

    private final Sentences sentences = Sentences.ofPromises();

    private PromisesTest() throws IOException {
    }

    private void says(String sentence) {
        sentences.says(sentence);
    }

    private static void due(String what, Object got, Object want) {
        Checks.due(what, got, want);
    }

    /** Three paragraphs with four rules, two of which have suggestions, a pair, and findings of all kinds at each desk. */
    private static Housestyle made() {
        Housestyle x = new Housestyle();
        Checks.write(x, 0, "ab 7/", 0);
        Checks.write(x, 5, "cat cats/", 1);
        Checks.write(x, 14, "one two 19", 3);
        Checks.rule(x, "cat*", 'a', false, 9);
        Checks.suggest(x, 0, "*dog");
        Checks.suggest(x, 0, "x");
        Checks.rule(x, "ab", 'a', false, 2);
        Checks.rule(x, "zz", 'a', false, 5);
        Checks.rule(x, "two", 'm', false, 4);
        Checks.pair(x, "one two");
        for (int desk = 0; desk < 4; desk++) {
            x.limit(desk, 20);
        }
        return x;
    }

    private void create() {
        says("1 Creates a checker without text and rules.");
        Housestyle x = new Housestyle();
        due("no text", x.length() + "," + x.paragraphs() + "," + x.tokens(false) + "," + x.tokens(true), "0,1,0,0");
        due("nothing typed", x.wipe(), 0);
        due("no findings", x.findings(0) + x.findings(1) + x.findings(2) + x.findings(3), 0);
        Checks.dueThrow("no rules", INDEX, () -> x.use(0, 0, true));
        due("the first rule", Checks.rule(x, "a"), 0);
        due("the first pair", Checks.pair(x, "a b"), 0);
        due("another one has none of it", new Housestyle().wipe(), 0);
    }

    private void typeAndWipe() {
        says("2 Types a sign of a pattern, a word or a suggestion.");
        Housestyle x = Checks.with("ab");
        x.type('a');
        x.type('b');
        due("a pattern", x.rule('a', true, 5) + ":" + x.findings(0), "0:1");
        x.type('x');
        due("a word", x.except(0), 1);
        x.type('7');
        x.type(' ');
        due("a suggestion", x.suggest(0) + ":" + Checks.suggested(x, 0, 0, 0), "1:7 ");
        says("2 sign: a small letter, a digit, ' ', '*', '#' or '-'");
        Checks.onlySigns("type", "abcdefghijklmnopqrstuvwxyz0123456789 *#-", ARGUMENT, Housestyle::new,
                (y, sign) -> y.type(sign));
        says("2 Returns how many are typed.");
        for (int i = 1; i <= 20; i++) {
            due("typed", x.type('-'), i);
        }
        says("3 Wipes the typed signs.");
        x.wipe();
        due("typed anew", x.type('a'), 1);
        says("3 Returns how many there were.");
        due("one", x.wipe(), 1);
        due("none", x.wipe(), 0);
        Checks.type(x, "a".repeat(20));
        due("twenty", x.wipe(), 20);
    }

    private void put() {
        says("4 Puts a sign into the text.");
        Housestyle x = new Housestyle();
        x.put(0, 'b', 0);
        due("put in", Checks.textOf(x), "b");
        says("4 place: the place ahead of which it comes, or the length");
        x.put(0, 'a', 0);
        x.put(2, 'd', 0);
        x.put(2, 'c', 0);
        due("ahead of the places", Checks.textOf(x), "abcd");
        Checks.onlyFrom("put at", 0, 24, INDEX, PromisesTest::made, (y, place) -> y.put(place, 'a', 0));
        Checks.onlyFrom("put into an empty text at", 0, 0, INDEX, Housestyle::new, (y, place) -> y.put(place, 'a', 0));
        says("4 sign: the sign");
        Checks.onlySigns("put", "abcdefghijklmnopqrstuvwxyz0123456789 .\"/", ARGUMENT, Housestyle::new,
                (y, sign) -> y.put(0, sign, 3));
        says("4 writer: 0 to 3");
        Checks.onlyFrom("put by", 0, 3, ARGUMENT, PromisesTest::made, (y, writer) -> y.put(24, ' ', writer));
        says("4 Returns the length.");
        Housestyle y = new Housestyle();
        for (int i = 1; i <= 160; i++) {
            due("the length", y.put(0, '/', 0), i);
        }
    }

    private void takeAtAndLength() {
        says("5 Takes a sign out of the text.");
        Housestyle x = Checks.with("abc");
        x.take(1);
        due("taken out", Checks.textOf(x), "ac");
        says("5 place: the place");
        Checks.onlyFrom("take at", 0, 23, INDEX, PromisesTest::made, Housestyle::take);
        Checks.onlyFrom("take out of a full text at", 0, 159, INDEX, () -> Checks.with("/".repeat(160)), Housestyle::take);
        says("5 Returns the sign.");
        String signs = "az09 .\"/";
        Housestyle y = Checks.with(signs);
        for (int i = 0; i < signs.length(); i++) {
            due("the sign that is taken", y.take(0), signs.charAt(i));
        }
        says("6 Returns a sign of the text.");
        due("the only one", Checks.with("/").at(0), '/');
        says("6 place: the place");
        Checks.onlyFrom("at", 0, 23, INDEX, PromisesTest::made, Housestyle::at);
        Checks.onlyFrom("at of a full text", 0, 159, INDEX, () -> Checks.with("/".repeat(160)), Housestyle::at);
        says("6 Returns the sign.");
        due("each one", Checks.textOf(Checks.with(signs)), signs);
        says("7 Returns the length of the text.");
        due("the text's", made().length(), 24);
        says("7 Returns the length.");
        due("the empty text's", new Housestyle().length(), 0);
        due("the full text's", Checks.with(" ".repeat(160)).length(), 160);
        due("the emptied text's", y.length(), 0);
    }

    private static Housestyle typed(String signs) {
        Housestyle x = made();
        Checks.type(x, signs);
        return x;
    }

    private void rule() {
        says("8 Adds a rule with the pattern that is typed, which is wiped then.");
        Housestyle x = typed("cats");
        due("nothing to wipe", x.rule('a', false, 9) + "," + x.wipe(), "4,0");
        x.use(0, 0, false);
        due("found", x.byRule(0, 4), 1);
        says("8 condition: 'a', 's' or 'm'");
        Checks.onlySigns("the condition", "asm", ARGUMENT, () -> typed("a"), (y, sign) -> y.rule(sign, false, 9));
        Housestyle some = Checks.with("a a");
        Checks.rule(some, "a", 'm', false, 9);
        Checks.rule(some, "a", 's', false, 8);
        Checks.rule(some, "a", 'a', false, 7);
        due("first and not the first", Checks.found(some, 0), "1@0+1 0@2+1");
        some.use(0, 0, false);
        some.use(0, 1, false);
        due("always", Checks.found(some, 0), "2@0+1 2@2+1");
        says("8 inQuotes: whether it looks into quotes");
        Housestyle quoted = Checks.with("\"a\" a");
        Checks.rule(quoted, "a", 'a', false, 5);
        Checks.rule(quoted, "*", 'a', true, 4);
        due("one does, one does not", Checks.found(quoted, 0), "1@1+1 0@4+1");
        says("8 rank: 1 to 9");
        Checks.onlyFrom("the rank", 1, 9, ARGUMENT, () -> typed("a"), (y, rank) -> y.rule('s', true, rank));
        for (int rank = 1; rank <= 9; rank++) {
            Housestyle y = Checks.with("a");
            Checks.rule(y, "a", 'a', false, rank);
            due("the rank of what is found", y.of(0, 0, 'k'), rank);
        }
        says("8 Returns its number.");
        Housestyle y = new Housestyle();
        for (int i = 0; i < 12; i++) {
            due("the number", Checks.rule(y, "a"), i);
        }
    }

    private static Housestyle withoutSuggestions() {
        Housestyle x = new Housestyle();
        for (int i = 0; i < 4; i++) {
            Checks.rule(x, "a");
        }
        x.type('b');
        return x;
    }

    private void exceptSuggestAndPair() {
        says("9 Adds an exception, a word that is typed and wiped then.");
        Housestyle x = typed("cat");
        due("nothing to wipe", x.except(0) + "," + x.wipe(), "1,0");
        due("an exception", Checks.found(x, 0), "1@0+2 20@3+1 0@5+3 12@18+3 20@22+2");
        says("9 rule: the rule");
        Checks.onlyFrom("except", 0, 3, INDEX, () -> typed("a"), Housestyle::except);
        says("9 Returns how many it has.");
        due("the second", Checks.except(x, 0, "a"), 2);
        due("the third", Checks.except(x, 0, "abcdefghijklmnopqrst"), 3);
        due("the first of the last rule", Checks.except(x, 3, "z"), 1);
        says("10 Adds a suggestion that is typed and wiped then.");
        Housestyle y = typed("b*");
        due("nothing to wipe", y.suggest(1) + "," + y.wipe(), "1,0");
        due("a suggestion", Checks.suggested(y, 0, 0, 0), "b");
        says("10 rule: the rule");
        Checks.onlyFrom("suggest", 0, 3, INDEX, PromisesTest::withoutSuggestions, Housestyle::suggest);
        says("10 Returns how many it has.");
        due("the second", Checks.suggest(y, 1, "*"), 2);
        due("the first of the last rule", Checks.suggest(y, 3, "12345678901234567890"), 1);
        says("11 Tells a pair of words, typed with one blank between them, and wiped then.");
        Housestyle z = typed("ab cat");
        due("nothing to wipe", z.pair() + "," + z.wipe(), "1,0");
        z.use(0, 0, false);
        due("a pair", Checks.found(z, 0), "1@0+2 20@3+1 13@5+3 12@18+3 20@22+2");
        says("11 Returns its number.");
        Housestyle w = new Housestyle();
        for (int i = 0; i < 4; i++) {
            due("the number", Checks.pair(w, "a b"), i);
        }
    }

    private void use() {
        says("12 Uses a rule at a desk, or leaves it out.");
        Housestyle x = made();
        x.use(1, 0, false);
        due("left out", x.byRule(1, 0) + "," + x.byRule(0, 0), "0,2");
        x.use(1, 0, true);
        due("used", x.byRule(1, 0), 2);
        says("12 desk: 0 to 3");
        Checks.onlyFrom("use at", 0, 3, ARGUMENT, PromisesTest::made, (y, desk) -> y.use(desk, 0, false));
        says("12 rule: the rule");
        Checks.onlyFrom("use", 0, 3, INDEX, PromisesTest::made, (y, rule) -> y.use(0, rule, false));
        x.use(0, 3, false);
        due("the last rule, not the pair", Checks.found(x, 0), "1@0+2 20@3+1 0@5+3 0@9+4 12@18+3 20@22+2");
        says("12 isUsed: whether it is used");
        Housestyle y = Checks.with("a");
        Checks.rule(y, "a");
        y.use(0, 0, true);
        due("used as it was", y.findings(0), 1);
        y.use(0, 0, false);
        due("left out", y.findings(0), 0);
        y.use(0, 0, false);
        due("left out as it was", y.findings(0), 0);
        says("12 Returns whether it was.");
        due("left out", y.use(0, 0, true), false);
        due("used", y.use(0, 0, true), true);
        due("used at another desk", y.use(3, 0, false), true);
        due("left out there", y.use(3, 0, false), false);
        Housestyle z = made();
        for (int rule = 3; rule >= 0; rule--) {
            due("used, the rule " + rule, z.use(2, rule, false), true);
            due("left out, the rule " + rule, z.use(2, rule, true), false);
            due("used again, the rule " + rule, z.use(2, rule, false), true);
        }
        due("all left out", Checks.found(z, 2), "20@3+1 12@18+3 20@22+2");
    }

    private void rank() {
        says("13 Sets the rank of a rule at a desk.");
        Housestyle x = made();
        x.rank(2, 3, 6);
        due("above the pair", Checks.found(x, 2) + ";" + Checks.found(x, 1),
                "1@0+2 20@3+1 0@5+3 0@9+4 3@18+3 20@22+2;1@0+2 20@3+1 0@5+3 0@9+4 12@18+3 20@22+2");
        says("13 desk: 0 to 3");
        Checks.onlyFrom("rank at", 0, 3, ARGUMENT, PromisesTest::made, (y, desk) -> y.rank(desk, 0, 5));
        says("13 rule: the rule");
        Checks.onlyFrom("rank of", 0, 3, INDEX, PromisesTest::made, (y, rule) -> y.rank(0, rule, 5));
        says("13 rank: 1 to 9, or 0 for its own");
        Checks.onlyFrom("the rank", 0, 9, ARGUMENT, PromisesTest::made, (y, rank) -> y.rank(0, 0, rank));
        for (int rank = 0; rank <= 9; rank++) {
            Housestyle y = made();
            y.rank(3, 1, rank);
            due("the rank there", y.of(3, 0, 'k') + "," + y.of(0, 0, 'k'), (rank == 0 ? 2 : rank) + ",2");
        }
        says("13 Returns the rank there before, the rule's own one where none was set.");
        due("its own", x.rank(0, 0, 1), 9);
        due("the least", x.rank(0, 0, 9), 1);
        due("the greatest", x.rank(0, 0, 0), 9);
        due("its own again", x.rank(0, 0, 0), 9);
        due("another rule's own", x.rank(0, 1, 0), 2);
        due("set at this desk", x.rank(2, 3, 0), 6);
        due("its own at this desk", x.rank(2, 3, 0), 4);
    }

    private void limit() {
        says("14 Sets the limit for numbers of a desk.");
        Housestyle x = made();
        x.limit(3, 19);
        due("below it", x.byRule(3, 20) + "," + x.byRule(2, 20), "1,2");
        says("14 desk: 0 to 3");
        Checks.onlyFrom("limit at", 0, 3, ARGUMENT, PromisesTest::made, (y, desk) -> y.limit(desk, 5));
        says("14 limit: 0 to 20");
        Checks.onlyFrom("the limit", 0, 20, ARGUMENT, PromisesTest::made, (y, limit) -> y.limit(0, limit));
        says("14 Returns the limit before.");
        due("set", x.limit(3, 20), 19);
        due("the greatest", x.limit(3, 0), 20);
        due("the least", x.limit(3, 0), 0);
        due("none at first", new Housestyle().limit(0, 7), 0);
    }

    private void findings() {
        says("15 Returns how many findings a desk has.");
        due("all kinds", made().findings(2), 6);
        says("15 desk: 0 to 3");
        Checks.onlyFrom("findings at", 0, 3, ARGUMENT, PromisesTest::made, Housestyle::findings);
        says("15 Returns how many.");
        due("none", new Housestyle().findings(0), 0);
        Housestyle x = Checks.with("1a".repeat(80));
        Checks.rule(x, "*");
        due("one of each two signs", x.findings(0), 80);
        x.limit(0, 20);
        due("as many as signs", x.findings(0), 160);
        Housestyle y = Checks.with("a".repeat(160));
        Checks.rule(y, "a*");
        due("one of all signs", y.findings(0), 1);
    }

    private void of() {
        says("16 Returns something of a finding.");
        Housestyle x = made();
        due("the last one's place", x.of(0, 5, 'f'), 22);
        says("16 desk: 0 to 3");
        Checks.onlyFrom("of at", 0, 3, ARGUMENT, PromisesTest::made, (y, desk) -> y.of(desk, 0, 'f'));
        says("16 finding: the finding");
        Checks.onlyFrom("of", 0, 5, ELEMENT, PromisesTest::made, (y, finding) -> y.of(0, finding, 'f'));
        says("16 what: 'f' the place of its first sign, 'l' the length of its span, 'r' its rule, 'k' its rank, 'w' the"
                + " writer of its first sign, 's' how many suggestions");
        Checks.onlySigns("of", "flrkws", ARGUMENT, PromisesTest::one, (y, what) -> y.of(0, 0, what));
        says("16 Returns the number.");
        String[] due = {"0,2,1,2,0,0", "3,1,20,1,0,0", "5,3,0,9,1,2", "9,4,0,9,1,2", "18,3,12,5,3,1", "22,2,20,1,3,0"};
        for (int i = 0; i < due.length; i++) {
            due("the finding " + i, x.of(0, i, 'f') + "," + x.of(0, i, 'l') + "," + x.of(0, i, 'r') + "," + x.of(0, i, 'k')
                    + "," + x.of(0, i, 'w') + "," + x.of(0, i, 's'), due[i]);
        }
        Housestyle full = Checks.with("a".repeat(160));
        Checks.rule(full, "*");
        due("the longest span", full.of(0, 0, 'f') + "," + full.of(0, 0, 'l'), "0,160");
        Housestyle last = Checks.with(".".repeat(159) + "a");
        Checks.rule(last, "*");
        due("the last place", last.of(0, 0, 'f') + "," + last.of(0, 0, 'l'), "159,1");
    }

    private static Housestyle one() {
        Housestyle x = Checks.with("a");
        Checks.rule(x, "a");
        return x;
    }

    private void size() {
        says("17 Returns how long a suggestion of a finding is, as it would be put in.");
        Housestyle x = made();
        due("with what is taken", x.size(0, 3, 0), 4);
        says("17 desk: 0 to 3");
        Checks.onlyFrom("size at", 0, 3, ARGUMENT, PromisesTest::made, (y, desk) -> y.size(desk, 2, 0));
        says("17 finding: the finding");
        Checks.onlyFrom("size of", 2, 4, ELEMENT, PromisesTest::made, (y, finding) -> y.size(0, finding, 0));
        says("17 suggestion: the suggestion, from 0");
        Checks.onlyFrom("size of the suggestion", 0, 1, ELEMENT, PromisesTest::made, (y, number) -> y.size(0, 2, number));
        Checks.onlyFrom("size of a pair's", 0, 0, ELEMENT, PromisesTest::made, (y, number) -> y.size(0, 4, number));
        says("17 Returns the length.");
        due("nothing is taken", x.size(0, 2, 0), 3);
        due("the second", x.size(0, 3, 1), 1);
        due("a pair's", x.size(0, 4, 0), 3);
        due("the shortest", longest().size(0, 0, 1), 0);
        due("the longest", longest().size(0, 1, 0), 19 + 158);
    }

    /** Two words, the first of which is taken as nothing, and the second as all but two signs of the text. */
    private static Housestyle longest() {
        Housestyle x = Checks.with("b." + "c".repeat(158));
        Checks.rule(x, "c");
        Checks.rule(x, "*");
        Checks.suggest(x, 1, "abcdefghijklmnopqr9*");
        Checks.suggest(x, 1, "b");
        Checks.rule(x, "b*", 'a', false, 9);
        Checks.suggest(x, 2, "a");
        Checks.suggest(x, 2, "*");
        return x;
    }

    private void sign() {
        says("18 Returns a sign of a suggestion of a finding, as it would be put in.");
        Housestyle x = made();
        due("what is taken", x.sign(0, 3, 0, 0), 's');
        says("18 desk: 0 to 3");
        Checks.onlyFrom("sign at", 0, 3, ARGUMENT, PromisesTest::made, (y, desk) -> y.sign(desk, 2, 0, 0));
        says("18 finding: the finding");
        Checks.onlyFrom("sign of", 2, 4, ELEMENT, PromisesTest::made, (y, finding) -> y.sign(0, finding, 0, 0));
        says("18 suggestion: the suggestion, from 0");
        Checks.onlyFrom("sign of the suggestion", 0, 1, ELEMENT, PromisesTest::made, (y, number) -> y.sign(0, 2, number, 0));
        says("18 place: the place, from 0");
        Checks.onlyFrom("sign at the place", 0, 3, ELEMENT, PromisesTest::made, (y, place) -> y.sign(0, 3, 0, place));
        Checks.onlyFrom("sign of a pair's", 0, 2, ELEMENT, PromisesTest::made, (y, place) -> y.sign(0, 4, 0, place));
        Checks.onlyFrom("sign of the longest", 0, 176, ELEMENT, PromisesTest::longest, (y, place) -> y.sign(0, 1, 0, place));
        says("18 Returns the sign.");
        due("each one", Checks.suggested(x, 0, 3, 0) + "," + Checks.suggested(x, 0, 3, 1) + "," + Checks.suggested(x, 0, 4, 0),
                "sdog,x,one");
        due("each one of the longest", Checks.suggested(longest(), 0, 1, 0), "abcdefghijklmnopqr9" + "c".repeat(158));
    }

    private void apply() {
        says("19 Applies a suggestion of a finding.");
        Housestyle x = made();
        x.apply(0, 3, 0, 2);
        due("the text", Checks.textOf(x), "ab 7/cat sdog/one two 19");
        says("19 desk: 0 to 3");
        Checks.onlyFrom("apply at", 0, 3, ARGUMENT, PromisesTest::made, (y, desk) -> y.apply(desk, 2, 0, 0));
        says("19 finding: the finding");
        Checks.onlyFrom("apply to", 2, 4, ELEMENT, PromisesTest::made, (y, finding) -> y.apply(0, finding, 0, 0));
        says("19 suggestion: the suggestion, from 0");
        Checks.onlyFrom("apply", 0, 1, ELEMENT, PromisesTest::made, (y, number) -> y.apply(0, 2, number, 0));
        says("19 writer: 0 to 3");
        Checks.onlyFrom("apply by", 0, 3, ARGUMENT, PromisesTest::made, (y, writer) -> y.apply(0, 2, 0, writer));
        for (int writer = 0; writer < 4; writer++) {
            Housestyle y = one();
            Checks.suggest(y, 0, "a");
            y.apply(0, 0, 0, writer);
            due("by whom it came", y.of(0, 0, 'w'), writer);
        }
        says("19 Returns the length of the text then.");
        due("as long as before", x.apply(0, 3, 0, 0), 24);
        due("shorter", x.apply(0, 2, 1, 0), 22);
        for (int dots = 157; dots <= 159; dots++) {
            Housestyle y = Checks.with("a" + ".".repeat(dots));
            Checks.rule(y, "a");
            Checks.suggest(y, 0, "ab");
            due("longer, with " + dots + " behind", Checks.answer(() -> y.apply(0, 0, 0, 0)),
                    dots == 159 ? "throws IllegalStateException" : String.valueOf(dots + 2));
        }
        Housestyle z = Checks.with("a");
        Checks.rule(z, "a*");
        Checks.suggest(z, 0, "*");
        due("empty", z.apply(0, 0, 0, 0), 0);
    }

    private void ignoreAndHeed() {
        says("20 Ignores a finding at a desk.");
        Housestyle x = made();
        x.ignore(0, 5);
        due("the last one", Checks.found(x, 0), "1@0+2 20@3+1 0@5+3 0@9+4 12@18+3");
        says("20 desk: 0 to 3");
        Checks.onlyFrom("ignore at", 0, 3, ARGUMENT, PromisesTest::made, (y, desk) -> y.ignore(desk, 0));
        says("20 finding: the finding");
        Checks.onlyFrom("ignore", 0, 5, ELEMENT, PromisesTest::made, (y, finding) -> y.ignore(0, finding));
        says("20 Returns how many are ignored there.");
        due("the second", x.ignore(0, 0), 2);
        due("the first at another desk", x.ignore(3, 0), 1);
        says("21 Returns how many are ignored at a desk.");
        due("two", x.ignored(0), 2);
        says("21 desk: 0 to 3");
        Checks.onlyFrom("ignored at", 0, 3, ARGUMENT, PromisesTest::made, Housestyle::ignored);
        says("21 Returns how many.");
        due("none and one", x.ignored(1) + "," + x.ignored(3), "0,1");
        says("22 Heeds all again that was ignored at a desk.");
        x.heed(0);
        due("all and none at another desk", x.findings(0) + "," + x.findings(3), "6,5");
        says("22 desk: 0 to 3");
        Checks.onlyFrom("heed at", 0, 3, ARGUMENT, PromisesTest::made, Housestyle::heed);
        says("22 Returns how many were.");
        due("one", x.heed(3), 1);
        due("none", x.heed(3), 0);
        Housestyle many = Checks.with("a ".repeat(20));
        Checks.rule(many, "a");
        for (int i = 1; i <= 20; i++) {
            due("as many", many.ignore(0, 20 - i) + "," + many.ignored(0), i + "," + i);
        }
        due("twenty", many.heed(0) + "," + many.ignored(0) + "," + many.findings(0), "20,0,20");
        Housestyle y = made();
        y.ignore(0, 3);
        y.heed(0);
        due("another one, once all are heeded", y.ignore(0, 2) + ":" + Checks.found(y, 0),
                "1:1@0+2 20@3+1 0@9+4 12@18+3 20@22+2");
    }

    private void tokensAndParagraphs() {
        says("23 Returns how many tokens the text has.");
        due("words and numbers", made().tokens(false), 7);
        says("23 inQuotes: whether those with a sign in a quote are meant, otherwise the others");
        Housestyle x = Checks.with("a \"b 7\" c/\"d e.f/8");
        due("in quotes", x.tokens(true), 5);
        due("the others", x.tokens(false), 3);
        says("23 Returns how many.");
        due("none", new Housestyle().tokens(false) + new Housestyle().tokens(true), 0);
        due("all signs", Checks.with("a1".repeat(80)).tokens(false), 160);
        due("all signs but the quote's", Checks.with("\"" + "1a".repeat(79) + "1").tokens(true), 159);
        x.take(2);
        due("after an edit", x.tokens(true) + "," + x.tokens(false), "4,4");
        says("24 Returns how many paragraphs the text has, empty ones too.");
        due("empty ones", Checks.with("//a//").paragraphs(), 5);
        says("24 Returns how many.");
        due("the empty one", new Housestyle().paragraphs(), 1);
        due("one", Checks.with("a.\"").paragraphs(), 1);
        due("the most", Checks.with("/".repeat(160)).paragraphs(), 161);
        Housestyle y = Checks.with("/");
        y.take(0);
        due("one again", y.paragraphs(), 1);
    }

    private void check() {
        says("25 Checks what changed for a desk.");
        Housestyle x = made();
        x.check(1);
        due("checked", x.check(1), 0);
        due("not at another desk", x.check(0), 3);
        says("25 desk: 0 to 3");
        Checks.onlyFrom("check at", 0, 3, ARGUMENT, PromisesTest::made, Housestyle::check);
        says("25 Returns how many paragraphs had changed.");
        due("none", x.check(1), 0);
        x.put(24, '.', 0);
        due("one", x.check(1), 1);
        x.put(0, '.', 0);
        x.put(1, '.', 0);
        due("two by three edits", x.check(0), 2);
        x.limit(1, 0);
        due("all", x.check(1), 3);
        due("the empty one at first", new Housestyle().check(3), 1);
        due("the most", Checks.with("/".repeat(160)).check(2), 161);
    }

    private void byRuleAndWriter() {
        says("26 Returns how many findings of a desk are by a rule.");
        due("both cats", made().byRule(0, 0), 2);
        says("26 desk: 0 to 3");
        Checks.onlyFrom("byRule at", 0, 3, ARGUMENT, PromisesTest::made, (y, desk) -> y.byRule(desk, 0));
        says("26 rule: 0 to 20");
        Checks.onlyFrom("byRule", 0, 20, ARGUMENT, PromisesTest::made, (y, rule) -> y.byRule(0, rule));
        says("26 Returns how many.");
        int[] due = {2, 1, 0, 0, 0, 0, 0, 0, 0, 0, 0, 0, 1, 0, 0, 0, 0, 0, 0, 0, 2};
        for (int rule = 0; rule <= 20; rule++) {
            due("by the rule " + rule, made().byRule(3, rule), due[rule]);
            due("by the rule " + rule + " of none", new Housestyle().byRule(3, rule), 0);
        }
        Housestyle x = Checks.with("a1".repeat(80));
        for (int i = 0; i < 12; i++) {
            Checks.rule(x, i == 11 ? "*" : "b");
        }
        due("the last rule", x.byRule(0, 11), 80);
        says("27 Returns how many findings of a desk are of a writer, by their first signs.");
        Housestyle y = new Housestyle();
        Checks.write(y, 0, "a", 0);
        Checks.write(y, 1, "b c", 2);
        Checks.write(y, 4, "d", 3);
        Checks.rule(y, "*");
        due("by the first signs", y.byWriter(0, 0) + "," + y.byWriter(0, 1) + "," + y.byWriter(0, 2) + "," + y.byWriter(0, 3),
                "1,0,1,0");
        says("27 desk: 0 to 3");
        Checks.onlyFrom("byWriter at", 0, 3, ARGUMENT, PromisesTest::made, (z, desk) -> z.byWriter(desk, 0));
        says("27 writer: 0 to 3");
        Checks.onlyFrom("byWriter", 0, 3, ARGUMENT, PromisesTest::made, (z, writer) -> z.byWriter(0, writer));
        says("27 Returns how many.");
        Housestyle z = made();
        due("each writer's", z.byWriter(1, 0) + "," + z.byWriter(1, 1) + "," + z.byWriter(1, 2) + "," + z.byWriter(1, 3),
                "2,2,0,2");
        z.limit(1, 0);
        due("at a desk", z.byWriter(1, 0) + "," + z.byWriter(2, 0), "1,2");
        due("of none", new Housestyle().byWriter(0, 0), 0);
        y.put(0, '.', 1);
        y.put(0, 'x', 1);
        Checks.rule(y, "b*", 'a', false, 9);
        y.use(0, 0, false);
        y.put(3, '.', 0);
        due("of those that are found alone", y.byWriter(0, 0) + "," + y.byWriter(0, 1) + "," + y.byWriter(0, 2), "0,0,1");
    }

    private void checksum() {
        says("28 Returns a sum over the text and the findings of the desk 0.");
        Housestyle x = made();
        long before = x.checksum();
        x.limit(1, 0);
        due("not of another desk", x.checksum(), before);
        x.limit(0, 0);
        due("of the desk 0", x.checksum() == before, false);
        says("28 Returns 7 at first, then for each sign 31 times itself plus it as a number, then for each finding 31 times"
                + " itself plus its place, then 31 times itself plus its rule.");
        due("at first", new Housestyle().checksum(), 7L);
        due("a sign", Checks.with("/").checksum(), 7L * 31 + 47);
        due("two findings", ab().checksum(), ((((7L * 31 + 'a') * 31 + '7') * 31 * 31) * 31 + 1) * 31 + 20);
        // Long before the 160 signs end, the sum has left the numbers of a long.
        Housestyle full = Checks.with("z7".repeat(80));
        Checks.rule(full, "y");
        Checks.rule(full, "*");
        full.limit(0, 8);
        due("it wraps around", full.checksum(), sumOf("z7".repeat(80), full).longValue());
        due("it is far outside of a long", sumOf("z7".repeat(80), full).bitLength() > 2000, true);
        for (int length = 10; length <= 16; length++) {
            due("around the first wrap", Checks.with("z".repeat(length)).checksum(),
                    sumOf("z".repeat(length), new Housestyle()).longValue());
        }
    }

    private static Housestyle ab() {
        Housestyle x = Checks.with("a7");
        Checks.rule(x, "a");
        x.limit(0, 8);
        return x;
    }

    /** The sum that a text and an object's findings have where numbers have no bound. */
    private static BigInteger sumOf(String text, Housestyle x) {
        BigInteger sum = BigInteger.valueOf(7);
        for (char sign : text.toCharArray()) {
            sum = sum.multiply(BigInteger.valueOf(31)).add(BigInteger.valueOf(sign));
        }
        int count = x.findings(0);
        for (int i = 0; i < count; i++) {
            // The findings of the full text are its signs, in turn by the rules 1 and 20.
            sum = sum.multiply(BigInteger.valueOf(31)).add(BigInteger.valueOf(i));
            sum = sum.multiply(BigInteger.valueOf(31)).add(BigInteger.valueOf(i % 2 == 0 ? 1 : 20));
        }
        return sum;
    }

    private void shareAndMean() {
        says("29 Returns the share of signs that are in spans of findings of a desk.");
        due("of 24", made().foundShare(0), 15.0f / 24.0f);
        says("29 desk: 0 to 3");
        Checks.onlyFrom("foundShare at", 0, 3, ARGUMENT, PromisesTest::made, Housestyle::foundShare);
        says("29 Returns their number divided by that of all, both converted to float.");
        due("none is", Checks.with("a").foundShare(0), 0.0f);
        due("all are", one().foundShare(0), 1.0f);
        Housestyle x = Checks.with("a..");
        Checks.rule(x, "a");
        due("a third", x.foundShare(3), 1.0f / 3.0f);
        Checks.write(x, 3, ".".repeat(157), 0);
        due("one of the most", x.foundShare(3), 1.0f / 160.0f);
        Housestyle y = Checks.with("a b " + "c".repeat(156));
        Checks.rule(y, "*-*-*");
        due("blanks in the span, all signs", y.foundShare(1), 1.0f);
        y.use(1, 0, false);
        due("left out", y.foundShare(1), 0.0f);
        Housestyle z = Checks.with("xxx a bb");
        Checks.rule(z, "a");
        Checks.rule(z, "b*");
        due("not the first token", z.foundShare(0), 3.0f / 8.0f);
        says("30 Returns the mean length of words.");
        due("of five", made().meanWord(), 15.0 / 5.0);
        says("30 Returns the sum divided by their number, both converted to double.");
        due("one letter", Checks.with("7 a 12").meanWord(), 1.0);
        due("the longest", Checks.with("a".repeat(160)).meanWord(), 160.0);
        due("a third", Checks.with("a/\"b\".cc").meanWord(), 4.0 / 3.0);
        due("the most words", Checks.with("a ".repeat(80)).meanWord(), 1.0);
        due("the most but one", Checks.with("a ".repeat(78) + "aaa.").meanWord(), 81.0 / 79.0);
    }

    private void isSound() {
        says("31 Checks the checker: no two findings of a desk share a sign; each rule, looked at by itself over the whole"
                + " text, finds what is taken, ignored, left out by a clash, or nothing else; and what is ignored lies in"
                + " the text.");
        due("empty", new Housestyle().isSound(), true);
        due("all kinds", made().isSound(), true);
        Housestyle full = Checks.with("a1".repeat(80));
        Checks.rule(full, "*");
        full.limit(0, 20);
        full.ignore(0, 159);
        due("full, the last sign ignored", full.isSound(), true);
        full.take(159);
        due("forgotten", full.isSound() + "," + full.ignored(0), "true,0");
        full.ignore(0, 158);
        full.take(0);
        due("gone on to the end", full.isSound() + "," + full.ignored(0), "true,1");
        Housestyle emptied = one();
        emptied.ignore(2, 0);
        emptied.take(0);
        due("emptied", emptied.isSound(), true);
        says("31 Returns whether all of this holds.");
        Housestyle x = Checks.with("a a a \"a a\" 7 a");
        Checks.rule(x, "a-a", 'a', true, 5);
        Checks.rule(x, "a", 'm', false, 5);
        Checks.rule(x, "*", 's', false, 5);
        due("clashes", x.isSound(), true);
        x.ignore(1, 0);
        x.ignore(1, 1);
        due("ignored ones that clash", x.isSound(), true);
        x.use(1, 0, false);
        due("ignored, and left out at the desk", x.isSound(), true);
        x.put(1, 'b', 0);
        due("ignored, and found no more", x.isSound(), true);
        String found = Checks.found(x, 1);
        x.check(1);
        due("asked", x.isSound() + "," + Checks.found(x, 1) + "," + x.check(1) + "," + x.check(0), "true," + found + ",0,1");
    }

    private void all() {
        create();
        typeAndWipe();
        put();
        takeAtAndLength();
        rule();
        exceptSuggestAndPair();
        use();
        rank();
        limit();
        findings();
        of();
        size();
        sign();
        apply();
        ignoreAndHeed();
        tokensAndParagraphs();
        check();
        byRuleAndWriter();
        checksum();
        shareAndMean();
        isSound();
        sentences.end();
    }

    public static void main(String[] args) throws IOException {
        new PromisesTest().all();
        Checks.end("PromisesTest");
    }
}
