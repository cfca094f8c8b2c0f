import java.io.IOException;
import java.util.NoSuchElementException;
import java.util.function.Function;
import java.util.function.Supplier;

/**
 * A test for each line of the promises on what a call throws: just where it is due, ahead of those that are listed
 * behind it, and with nothing changed.
 */
public final class RefusalsTest {
    private static final Class<IllegalArgumentException> ARGUMENT = IllegalArgumentException.class;
    private static final Class<IllegalStateException> STATE = IllegalStateException.class;
    private static final Class<IndexOutOfBoundsException> INDEX = IndexOutOfBoundsException.class;
    private static final Class<UnsupportedOperationException> FORM = UnsupportedOperationException.class;
    private static final Class<NoSuchElementException> ELEMENT = NoSuchElementException.class;
    private static final Class<ArithmeticException> ARITHMETIC = ArithmeticException.class;
    private static final int LEAST = Integer.MIN_VALUE;
    private static final int MOST = Integer.MAX_VALUE;
    // 260 and -252 are 4 in a byte, 256 is 0 there, 65536 in a short.
    private static final int[] NO_DESKS = {-1, 4, 5, 31, 32, 256, 260, -252, 65536, LEAST, MOST};

    private final Sentences sentences = Sentences.ofExceptions();

    private RefusalsTest() throws IOException {
    }

    private void says(String sentence) {
        sentences.says(sentence);
    }

    private static void refused(String what, Class<? extends RuntimeException> want, Supplier<Housestyle> made,
            Function<Housestyle, ?> call) {
        Refused.due(what, want, made, call);
    }

    private static void due(String what, Object got, Object want) {
        Checks.due(what, got, want);
    }

    /** An object in which there is some of everything, and different things at each desk; these signs are typed. */
    private static Supplier<Housestyle> busy(String typed) {
        return () -> {
            Housestyle x = new Housestyle();
            String text = "the cats sat/a 7 \"cats\" one./two cats 12 one";
            for (int i = 0; i < text.length(); i++) {
                x.put(i, text.charAt(i), i * 7 % 4);
            }
            Checks.rule(x, "cat*");
            Checks.except(x, 0, "two");
            Checks.suggest(x, 0, "dog*");
            Checks.rule(x, "#", 'm', true, 7);
            Checks.rule(x, "a-#", 's', false, 6);
            Checks.pair(x, "one two");
            x.use(1, 0, false);
            x.rank(2, 1, 3);
            x.limit(3, 20);
            x.ignore(0, 0);
            x.ignore(3, 1);
            x.check(0);
            x.check(1);
            x.put(13, ' ', 2);
            x.check(1);
            Checks.type(x, typed);
            return x;
        };
    }

    private static Supplier<Housestyle> busy() {
        return busy("ab*");
    }

    private static Housestyle fullText() {
        Housestyle x = new Housestyle();
        for (int i = 0; i < 160; i++) {
            x.put(i, "ab 7/".charAt(i % 5), i % 4);
        }
        Checks.rule(x, "ab");
        Checks.suggest(x, 0, "ab");
        Checks.suggest(x, 0, "abc");
        x.check(1);
        return x;
    }

    private static Supplier<Housestyle> fullRules(String typed) {
        return () -> {
            Housestyle x = Checks.with("a b/z");
            for (int i = 0; i < 12; i++) {
                Checks.rule(x, String.valueOf((char) ('a' + i)));
            }
            x.check(2);
            Checks.type(x, typed);
            return x;
        };
    }

    /** As many exceptions and suggestions as the rule 0 takes, and as many pairs as there can be. */
    private static Supplier<Housestyle> fullOfWords(String typed) {
        return () -> {
            Housestyle x = Checks.with("a b/c d");
            Checks.rule(x, "b");
            Checks.rule(x, "d");
            for (int i = 0; i < 3; i++) {
                Checks.except(x, 0, "e");
            }
            Checks.suggest(x, 0, "f");
            Checks.suggest(x, 0, "g");
            for (int i = 0; i < 4; i++) {
                Checks.pair(x, "a c");
            }
            x.check(3);
            Checks.type(x, typed);
            return x;
        };
    }

    private static Housestyle fullOfIgnored() {
        Housestyle x = Checks.with("a ".repeat(23));
        Checks.rule(x, "a");
        for (int i = 0; i < 20; i++) {
            x.ignore(2, 1);
        }
        x.check(2);
        return x;
    }

    private void type() {
        says("2 Throws IllegalArgumentException if there is no such sign");
        for (char sign : new char[] {'A', 'Z', '`', '{', '/', ':', '!', '"', '.', ')', '+', ',', '$', '\n', 0, 127, 160,
            'a' + 256, 65535}) {
            refused("type " + (int) sign, ARGUMENT, busy(), x -> x.type(sign));
            refused("type as 20 are typed " + (int) sign, ARGUMENT, busy("abcdefghijklmnopqrst"), x -> x.type(sign));
        }
        says("2 Throws IllegalStateException if there are 20");
        for (char sign : "az09 *#-".toCharArray()) {
            refused("type the sign 21", STATE, busy("abcdefghijklmnopqrst"), x -> x.type(sign));
        }
        due("the sign 20", busy("abcdefghijklmnopqrs").get().type('t'), 20);
    }

    private void put() {
        says("4 Throws IndexOutOfBoundsException if there is no such place");
        int length = busy().get().length();
        for (int place : new int[] {-1, length + 1, length + 256, 161, LEAST, MOST}) {
            refused("put at " + place, INDEX, busy(), x -> x.put(place, 'a', 0));
            refused("put at " + place + ", no sign", INDEX, busy(), x -> x.put(place, 'A', 0));
            refused("put at " + place + ", no writer", INDEX, busy(), x -> x.put(place, '/', 4));
        }
        refused("put into an empty text", INDEX, Housestyle::new, x -> x.put(1, 'a', 0));
        refused("put into a full text", INDEX, RefusalsTest::fullText, x -> x.put(161, 'a', 0));
        refused("put into a full text, all wrong", INDEX, RefusalsTest::fullText, x -> x.put(-1, '-', -1));
        says("4 Throws IllegalArgumentException if there is no such sign or writer");
        for (char sign : new char[] {'A', '`', '{', '-', ':', '*', '#', '!', '\n', 0, 127, 'a' + 256, 65535}) {
            refused("put " + (int) sign, ARGUMENT, busy(), x -> x.put(13, sign, 0));
            refused("put into a full text " + (int) sign, ARGUMENT, RefusalsTest::fullText, x -> x.put(160, sign, 3));
        }
        for (int writer : NO_DESKS) {
            refused("put by " + writer, ARGUMENT, busy(), x -> x.put(0, '/', writer));
            refused("put into a full text by " + writer, ARGUMENT, RefusalsTest::fullText, x -> x.put(0, '/', writer));
        }
        says("4 Throws IllegalStateException if the text has 160");
        for (int place : new int[] {0, 4, 5, 159, 160}) {
            refused("put into a full text", STATE, RefusalsTest::fullText, x -> x.put(place, 'z', 0));
            refused("part a paragraph of a full text", STATE, RefusalsTest::fullText, x -> x.put(place, '/', 3));
        }
    }

    private void takeAndAt() {
        int length = busy().get().length();
        says("5 Throws IndexOutOfBoundsException if there is no such place");
        for (int place : new int[] {-1, length, length + 1, length + 256, LEAST, MOST}) {
            refused("take at " + place, INDEX, busy(), x -> x.take(place));
        }
        refused("take out of an empty text", INDEX, Housestyle::new, x -> x.take(0));
        refused("take behind a full text", INDEX, RefusalsTest::fullText, x -> x.take(160));
        says("6 Throws IndexOutOfBoundsException if there is no such place");
        for (int place : new int[] {-1, length, length + 1, length + 256, LEAST, MOST}) {
            refused("at " + place, INDEX, busy(), x -> x.at(place));
        }
        refused("at, in an empty text", INDEX, Housestyle::new, x -> x.at(0));
        refused("at, behind a full text", INDEX, RefusalsTest::fullText, x -> x.at(160));
    }

    private void rule() {
        says("8 Throws IllegalArgumentException if there is no such condition, or the rank is out of range");
        for (String typed : new String[] {"ab", "", "a b"}) {
            for (char condition : new char[] {'b', 'A', 'S', 'M', ' ', 0, 'a' + 256, 65535}) {
                refused("rule " + (int) condition, ARGUMENT, busy(typed), x -> x.rule(condition, true, 5));
                refused("rule as there are 12", ARGUMENT, fullRules(typed), x -> x.rule(condition, false, 5));
            }
            for (int rank : new int[] {0, 10, -1, 257, 65537, LEAST, MOST}) {
                refused("rule of rank " + rank, ARGUMENT, busy(typed), x -> x.rule('s', false, rank));
                refused("rule as there are 12", ARGUMENT, fullRules(typed), x -> x.rule('m', true, rank));
            }
            refused("neither condition nor rank", ARGUMENT, busy(typed), x -> x.rule('x', false, 0));
        }
        says("8 Throws UnsupportedOperationException if what is typed is no pattern");
        for (String typed : new String[] {"", "-", "a-", "-a", "a--b", "a-b-c-d", "a*b", "**", "*a", "##", "#a", "a#", "a b",
            "7", "a7", " ", "abcdefghijklmnopqrs-"}) {
            refused("rule <" + typed + ">", FORM, busy(typed), x -> x.rule('a', true, 1));
            refused("rule as there are 12 <" + typed + ">", FORM, fullRules(typed), x -> x.rule('a', true, 9));
        }
        says("8 Throws IllegalStateException if there are 12");
        for (String typed : new String[] {"m", "*", "#", "a-b-c", "abcdefghijklmnopqrst"}) {
            refused("the rule 13 <" + typed + ">", STATE, fullRules(typed), x -> x.rule('a', false, 9));
        }
    }

    private void except() {
        says("9 Throws IndexOutOfBoundsException if there is no such rule");
        for (int rule : new int[] {-1, 3, 4, 11, 12, 20, 256, 65536, LEAST, MOST}) {
            refused("except " + rule, INDEX, busy("ab"), x -> x.except(rule));
            refused("except no word " + rule, INDEX, busy("a b"), x -> x.except(rule));
        }
        refused("except without rules", INDEX, Housestyle::new, x -> x.except(0));
        refused("except behind 12 rules", INDEX, fullRules("ab"), x -> x.except(12));
        says("9 Throws UnsupportedOperationException if what is typed is not one word of small letters");
        for (String typed : new String[] {"", " ", "a b", " a", "a ", "7", "a7", "7a", "a*", "*", "#", "a-b", "-"}) {
            refused("except <" + typed + ">", FORM, busy(typed), x -> x.except(2));
            refused("except as it has 3 <" + typed + ">", FORM, fullOfWords(typed), x -> x.except(0));
        }
        says("9 Throws IllegalStateException if it has 3");
        refused("the exception 4", STATE, fullOfWords("ab"), x -> x.except(0));
        refused("the exception 4, one that it has", STATE, fullOfWords("e"), x -> x.except(0));
        due("the first of another rule", fullOfWords("e").get().except(1), 1);
    }

    private void suggest() {
        says("10 Throws IndexOutOfBoundsException if there is no such rule");
        for (int rule : new int[] {-1, 3, 4, 11, 12, 20, 256, 65536, LEAST, MOST}) {
            refused("suggest " + rule, INDEX, busy("ab"), x -> x.suggest(rule));
            refused("suggest nothing " + rule, INDEX, busy(""), x -> x.suggest(rule));
        }
        refused("suggest without rules", INDEX, Housestyle::new, x -> x.suggest(0));
        refused("suggest behind 12 rules", INDEX, fullRules("ab"), x -> x.suggest(12));
        says("10 Throws UnsupportedOperationException if what is typed is no suggestion");
        for (String typed : new String[] {"", "**", "a*b*", "#", "a#", "-", "a-b", "*a*", "abcdefghijklmnopqr**"}) {
            refused("suggest <" + typed + ">", FORM, busy(typed), x -> x.suggest(1));
            refused("suggest as it has 2 <" + typed + ">", FORM, fullOfWords(typed), x -> x.suggest(0));
        }
        says("10 Throws IllegalStateException if it has 2");
        refused("the suggestion 3", STATE, fullOfWords("a*"), x -> x.suggest(0));
        refused("the suggestion 3, one that it has", STATE, fullOfWords("g"), x -> x.suggest(0));
        due("the first of another rule", fullOfWords("g").get().suggest(1), 1);
    }

    private void pair() {
        says("11 Throws UnsupportedOperationException if what is typed is not two unlike words of small letters");
        for (String typed : new String[] {"", " ", "a", "a ", " a", "a a", "a  b", " a b", "a b ", "a b c", "a 7", "7 a", "a7 b",
            "a b7", "a* b", "a b*", "# b", "a #", "a-b", "a-b c", "abcdefghi abcdefghi"}) {
            refused("pair <" + typed + ">", FORM, busy(typed), x -> x.pair());
            refused("pair as there are 4 <" + typed + ">", FORM, fullOfWords(typed), x -> x.pair());
        }
        says("11 Throws IllegalStateException if there are 4");
        refused("the pair 5", STATE, fullOfWords("y z"), x -> x.pair());
        refused("the pair 5, one that there is", STATE, fullOfWords("a c"), x -> x.pair());
    }

    private void use() {
        says("12 Throws IndexOutOfBoundsException if there is no such rule");
        for (int rule : new int[] {-1, 3, 4, 11, 12, 15, 20, 32, 256, 65536, LEAST, MOST}) {
            refused("use " + rule, INDEX, busy(), x -> x.use(0, rule, false));
            refused("use at no desk " + rule, INDEX, busy(), x -> x.use(4, rule, true));
            refused("use at no desk " + rule, INDEX, busy(), x -> x.use(-1, rule, false));
        }
        refused("use without rules", INDEX, Housestyle::new, x -> x.use(0, 0, false));
        refused("use behind 12 rules", INDEX, fullRules("a"), x -> x.use(0, 12, false));
        says("12 Throws IllegalArgumentException if there is no such desk");
        for (int desk : NO_DESKS) {
            refused("use at " + desk, ARGUMENT, busy(), x -> x.use(desk, 1, false));
        }
    }

    private void rank() {
        says("13 Throws IndexOutOfBoundsException if there is no such rule");
        for (int rule : new int[] {-1, 3, 4, 11, 12, 15, 20, 32, 256, 65536, LEAST, MOST}) {
            refused("rank of " + rule, INDEX, busy(), x -> x.rank(0, rule, 9));
            refused("rank of " + rule + " at no desk", INDEX, busy(), x -> x.rank(4, rule, 9));
            refused("no rank of " + rule, INDEX, busy(), x -> x.rank(0, rule, 10));
            refused("no rank of " + rule + " at no desk", INDEX, busy(), x -> x.rank(-1, rule, -1));
        }
        refused("rank without rules", INDEX, Housestyle::new, x -> x.rank(0, 0, 9));
        refused("rank behind 12 rules", INDEX, fullRules("a"), x -> x.rank(0, 12, 9));
        says("13 Throws IllegalArgumentException if there is no such desk, or the rank is out of range");
        for (int desk : NO_DESKS) {
            refused("rank at " + desk, ARGUMENT, busy(), x -> x.rank(desk, 1, 9));
        }
        for (int rank : new int[] {-1, 10, 256, 265, 65536, LEAST, MOST}) {
            refused("the rank " + rank, ARGUMENT, busy(), x -> x.rank(0, 1, rank));
            refused("the rank " + rank + " at no desk", ARGUMENT, busy(), x -> x.rank(4, 1, rank));
        }
    }

    private void limit() {
        says("14 Throws IllegalArgumentException if a number is out of range");
        for (int desk : NO_DESKS) {
            refused("limit at " + desk, ARGUMENT, busy(), x -> x.limit(desk, 5));
            refused("no limit at " + desk, ARGUMENT, busy(), x -> x.limit(desk, 21));
        }
        for (int limit : new int[] {-1, 21, 22, 256, 65536, LEAST, MOST}) {
            refused("the limit " + limit, ARGUMENT, busy(), x -> x.limit(3, limit));
        }
    }

    private void findings() {
        says("15 Throws IllegalArgumentException if there is no such desk");
        for (int desk : NO_DESKS) {
            refused("findings at " + desk, ARGUMENT, busy(), x -> x.findings(desk));
        }
    }

    private void of() {
        says("16 Throws IllegalArgumentException if there is no such desk or thing");
        for (int desk : NO_DESKS) {
            refused("of at " + desk, ARGUMENT, busy(), x -> x.of(desk, 0, 'f'));
            refused("of no finding at " + desk, ARGUMENT, busy(), x -> x.of(desk, 9, 'f'));
        }
        for (char what : new char[] {'a', 'm', 'F', 'L', 'R', 'K', 'W', 'S', ' ', 0, 'f' + 256, 65535}) {
            refused("of " + (int) what, ARGUMENT, busy(), x -> x.of(0, 0, what));
            refused("of no finding " + (int) what, ARGUMENT, busy(), x -> x.of(0, -1, what));
        }
        says("16 Throws NoSuchElementException if there is no such finding");
        int count = busy().get().findings(0);
        for (char what : "flrkws".toCharArray()) {
            for (int finding : new int[] {-1, count, count + 1, 256, 65536, LEAST, MOST}) {
                refused("of the finding " + finding, ELEMENT, busy(), x -> x.of(0, finding, what));
            }
            refused("of a finding of none", ELEMENT, Housestyle::new, x -> x.of(0, 0, what));
        }
    }

    private void size() {
        says("17 Throws IllegalArgumentException if there is no such desk");
        for (int desk : NO_DESKS) {
            refused("size at " + desk, ARGUMENT, busy(), x -> x.size(desk, 0, 0));
            refused("size of no finding at " + desk, ARGUMENT, busy(), x -> x.size(desk, 9, 0));
            refused("size of no suggestion at " + desk, ARGUMENT, busy(), x -> x.size(desk, 0, 9));
        }
        says("17 Throws NoSuchElementException if there is no such finding or suggestion");
        noSuchSuggestion("size", (x, finding, suggestion) -> x.size(2, finding, suggestion));
    }

    /** A call on a finding of the desk 2 and a suggestion. */
    private interface OnSuggestion {
        Object call(Housestyle x, int finding, int suggestion);
    }

    /** The findings of the desk 2 of the busy object: by rules with one suggestion and none, and by a pair. */
    private static void noSuchSuggestion(String what, OnSuggestion call) {
        Housestyle asked = busy().get();
        int count = asked.findings(2);
        due("all kinds are there", Checks.found(asked, 2), "0@4+4 2@14+3 12@30+3 1@39+2");
        for (int finding : new int[] {-1, count, count + 1, 256, 65536, LEAST, MOST}) {
            refused(what + " of the finding " + finding, ELEMENT, busy(), x -> call.call(x, finding, 0));
        }
        for (int finding = 0; finding < count; finding++) {
            int its = finding;
            int suggestions = asked.of(2, finding, 's');
            for (int suggestion : new int[] {-1, suggestions, suggestions + 1, 256, 65536, LEAST, MOST}) {
                refused(what + " of the suggestion " + suggestion, ELEMENT, busy(), x -> call.call(x, its, suggestion));
            }
        }
        refused(what + " of none", ELEMENT, Housestyle::new, x -> call.call(x, 0, 0));
        refused(what + " of a small number", ELEMENT, RefusalsTest::smallNumber, x -> call.call(x, 0, 0));
    }

    private static Housestyle smallNumber() {
        Housestyle x = Checks.with("7");
        x.limit(2, 20);
        return x;
    }

    private void sign() {
        says("18 Throws IllegalArgumentException if there is no such desk");
        for (int desk : NO_DESKS) {
            refused("sign at " + desk, ARGUMENT, busy(), x -> x.sign(desk, 0, 0, 0));
            refused("sign of no finding at " + desk, ARGUMENT, busy(), x -> x.sign(desk, 9, 0, 0));
            refused("sign of no suggestion at " + desk, ARGUMENT, busy(), x -> x.sign(desk, 0, 9, 0));
            refused("sign at no place at " + desk, ARGUMENT, busy(), x -> x.sign(desk, 0, 0, -1));
        }
        says("18 Throws NoSuchElementException if there is no such finding, suggestion or place");
        noSuchSuggestion("sign", (x, finding, suggestion) -> x.sign(2, finding, suggestion, 0));
        int size = busy().get().size(2, 0, 0);
        due("its last sign", busy().get().sign(2, 0, 0, size - 1), 's');
        for (int place : new int[] {-1, size, size + 1, 256, 65536, LEAST, MOST}) {
            refused("sign at " + place, ELEMENT, busy(), x -> x.sign(2, 0, 0, place));
        }
        refused("sign of an empty one", ELEMENT, RefusalsTest::emptySuggestion, x -> x.sign(0, 0, 0, 0));
    }

    private static Housestyle emptySuggestion() {
        Housestyle x = Checks.with("a");
        Checks.rule(x, "a*");
        Checks.suggest(x, 0, "*");
        return x;
    }

    private void apply() {
        says("19 Throws IllegalArgumentException if there is no such desk or writer");
        for (int other : NO_DESKS) {
            refused("apply at " + other, ARGUMENT, busy(), x -> x.apply(other, 0, 0, 0));
            refused("apply by " + other, ARGUMENT, busy(), x -> x.apply(2, 0, 0, other));
            refused("apply to no finding at " + other, ARGUMENT, busy(), x -> x.apply(other, 9, 0, 0));
            refused("apply to no finding by " + other, ARGUMENT, busy(), x -> x.apply(2, 9, 0, other));
            refused("apply no suggestion by " + other, ARGUMENT, busy(), x -> x.apply(2, 0, 9, other));
            refused("apply too long a one by " + other, ARGUMENT, RefusalsTest::fullText, x -> x.apply(0, 0, 1, other));
            refused("apply too long a one at " + other, ARGUMENT, RefusalsTest::fullText, x -> x.apply(other, 0, 1, 0));
        }
        says("19 Throws NoSuchElementException if there is no such finding or suggestion");
        noSuchSuggestion("apply", (x, finding, suggestion) -> x.apply(2, finding, suggestion, 3));
        refused("apply the third one to a full text", ELEMENT, RefusalsTest::fullText, x -> x.apply(0, 0, 2, 0));
        refused("apply to no finding of a full text", ELEMENT, RefusalsTest::fullText, x -> x.apply(0, 32, 1, 0));
        says("19 Throws IllegalStateException if the text would have more than 160");
        for (int finding = 0; finding < 32; finding += 31) {
            int its = finding;
            refused("apply to a full text", STATE, RefusalsTest::fullText, x -> x.apply(0, its, 1, 3));
            due("apply one that is no longer", fullText().apply(0, finding, 0, 3), 160);
        }
        refused("apply the longest one", STATE, RefusalsTest::longest, x -> x.apply(3, 0, 0, 0));
        due("apply another to it", longest().apply(3, 0, 1, 0), 160);
    }

    /** A text that is one word, for which the first suggestion has 179 signs. */
    private static Housestyle longest() {
        Housestyle x = Checks.with("a".repeat(160));
        Checks.rule(x, "*");
        Checks.suggest(x, 0, "1234567890 12345678*");
        Checks.suggest(x, 0, "*");
        return x;
    }

    private void ignore() {
        says("20 Throws IllegalArgumentException if there is no such desk");
        for (int desk : NO_DESKS) {
            refused("ignore at " + desk, ARGUMENT, busy(), x -> x.ignore(desk, 0));
            refused("ignore no finding at " + desk, ARGUMENT, busy(), x -> x.ignore(desk, -1));
            refused("ignore at " + desk + " as 20 are", ARGUMENT, RefusalsTest::fullOfIgnored, x -> x.ignore(desk, 0));
        }
        says("20 Throws NoSuchElementException if there is no such finding");
        int count = busy().get().findings(3);
        for (int finding : new int[] {-1, count, count + 1, 256, 65536, LEAST, MOST}) {
            refused("ignore " + finding, ELEMENT, busy(), x -> x.ignore(3, finding));
        }
        refused("ignore one of none", ELEMENT, Housestyle::new, x -> x.ignore(0, 0));
        for (int finding : new int[] {-1, 3, 20, LEAST, MOST}) {
            refused("ignore " + finding + " as 20 are", ELEMENT, RefusalsTest::fullOfIgnored, x -> x.ignore(2, finding));
        }
        says("20 Throws IllegalStateException if 20 are");
        for (int finding = 0; finding < 3; finding++) {
            int its = finding;
            refused("ignore the one 21", STATE, RefusalsTest::fullOfIgnored, x -> x.ignore(2, its));
        }
        due("at another desk", fullOfIgnored().ignore(1, 0), 1);
    }

    private void ignoredAndHeed() {
        says("21 Throws IllegalArgumentException if there is no such desk");
        for (int desk : NO_DESKS) {
            refused("ignored at " + desk, ARGUMENT, busy(), x -> x.ignored(desk));
        }
        says("22 Throws IllegalArgumentException if there is no such desk");
        for (int desk : NO_DESKS) {
            refused("heed at " + desk, ARGUMENT, busy(), x -> x.heed(desk));
        }
    }

    private void check() {
        says("25 Throws IllegalArgumentException if there is no such desk");
        for (int desk : NO_DESKS) {
            refused("check at " + desk, ARGUMENT, busy(), x -> x.check(desk));
        }
    }

    private void byRuleAndWriter() {
        says("26 Throws IllegalArgumentException if a number is out of range");
        for (int desk : NO_DESKS) {
            refused("byRule at " + desk, ARGUMENT, busy(), x -> x.byRule(desk, 0));
            refused("byRule of none at " + desk, ARGUMENT, busy(), x -> x.byRule(desk, 21));
        }
        for (int rule : new int[] {-1, 21, 22, 256, 65536, LEAST, MOST}) {
            refused("byRule " + rule, ARGUMENT, busy(), x -> x.byRule(0, rule));
        }
        says("27 Throws IllegalArgumentException if a number is out of range");
        for (int other : NO_DESKS) {
            refused("byWriter at " + other, ARGUMENT, busy(), x -> x.byWriter(other, 0));
            refused("byWriter " + other, ARGUMENT, busy(), x -> x.byWriter(0, other));
            refused("byWriter, neither " + other, ARGUMENT, busy(), x -> x.byWriter(other, other));
        }
    }

    private void shareAndMean() {
        says("29 Throws IllegalArgumentException if there is no such desk");
        for (int desk : NO_DESKS) {
            refused("foundShare at " + desk, ARGUMENT, busy(), x -> x.foundShare(desk));
            refused("foundShare of an empty text at " + desk, ARGUMENT, Housestyle::new, x -> x.foundShare(desk));
        }
        says("29 Throws ArithmeticException if there are none");
        for (int desk = 0; desk < 4; desk++) {
            int asked = desk;
            refused("foundShare of an empty text", ARITHMETIC, Housestyle::new, x -> x.foundShare(asked));
            refused("foundShare of a text that was emptied", ARITHMETIC, RefusalsTest::emptied, x -> x.foundShare(asked));
        }
        due("of one sign", Checks.with("/").foundShare(0), 0.0f);
        says("30 Throws ArithmeticException if there are none");
        refused("meanWord of an empty text", ARITHMETIC, Housestyle::new, x -> x.meanWord());
        refused("meanWord of a text that was emptied", ARITHMETIC, RefusalsTest::emptied, x -> x.meanWord());
        refused("meanWord without words", ARITHMETIC, () -> Checks.with("7 ./\" 09"), x -> x.meanWord());
        due("of one word", Checks.with("7 z").meanWord(), 1.0);
    }

    private static Housestyle emptied() {
        Housestyle x = Checks.with("a");
        Checks.rule(x, "a");
        x.take(0);
        return x;
    }

    private void all() {
        type();
        put();
        takeAndAt();
        rule();
        except();
        suggest();
        pair();
        use();
        rank();
        limit();
        findings();
        of();
        size();
        sign();
        apply();
        ignore();
        ignoredAndHeed();
        check();
        byRuleAndWriter();
        shareAndMean();
        sentences.end();
    }

    public static void main(String[] args) throws IOException {
        new RefusalsTest().all();
        Checks.end("RefusalsTest");
    }
}
