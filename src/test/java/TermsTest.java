import java.io.IOException;

/** A test for each sentence of the document's terms, at the bounds that it names. */
public final class TermsTest {
    private static final Class<IllegalArgumentException> ARGUMENT = IllegalArgumentException.class;
    private static final Class<IllegalStateException> STATE = IllegalStateException.class;
    private static final Class<IndexOutOfBoundsException> INDEX = IndexOutOfBoundsException.class;
    private static final Class<UnsupportedOperationException> FORM = UnsupportedOperationException.class;
    private static final Class<java.util.NoSuchElementException> ELEMENT = java.util.NoSuchElementException.class;
    private static final String TWENTY_LETTERS = "abcdefghijklmnopqrst";

    private final Sentences sentences = Sentences.ofTerms();

    private TermsTest() throws IOException {
    }

    private void says(String sentence) {
        sentences.says(sentence);
    }

    private static void due(String what, Object got, Object want) {
        Checks.due(what, got, want);
    }

    private static void dueThrow(String what, Class<? extends RuntimeException> want,
            java.util.function.Supplier<?> call) {
        Checks.dueThrow(what, want, call);
    }

    /** What a rule that is always found, also in quotes, finds in a text. */
    private static String found(String pattern, String text) {
        Housestyle x = Checks.with(text);
        Checks.rule(x, pattern, 'a', true, 5);
        return Checks.found(x, 0);
    }

    private static void dueFound(String pattern, String text, String want) {
        due(pattern + " in <" + text + ">", found(pattern, text), want);
    }

    private void calls() {
        says("An object is used for at most 512 calls after it has been made; what later calls answer is free.");
        Housestyle x = new Housestyle();
        for (int i = 0; i < 170; i++) {
            due("put, call " + (3 * i + 1), x.put(0, 'a', 0), 1);
            due("length, call " + (3 * i + 2), x.length(), 1);
            due("take, call " + (3 * i + 3), x.take(0), 'a');
        }
        due("call 511", x.put(0, 'b', 0), 1);
        due("call 512", x.checksum(), 7L * 31 + 'b');
        Housestyle y = new Housestyle();
        for (int i = 0; i < 51; i++) {
            Checks.type(y, "a-b-#-ab");
            dueThrow("no pattern", FORM, () -> y.rule('a', true, 5));
        }
        due("a call behind many refused ones", y.wipe(), 8);
    }

    private void textSigns() {
        says("The text has at most 160 signs: small letters, digits, ' ', '.', '\"' and '/'.");
        due("empty", new Housestyle().length(), 0);
        Housestyle x = new Housestyle();
        for (int i = 0; i < 160; i++) {
            due("put " + i, x.put(i / 2, 'a', 0), i + 1);
        }
        dueThrow("one more at the end", STATE, () -> x.put(160, 'a', 0));
        dueThrow("one more at the begin", STATE, () -> x.put(0, 'a', 0));
        due("full", x.length(), 160);
        due("one less", x.take(159), 'a');
        due("full again", x.put(159, 'b', 0), 160);
        Checks.onlySigns("a sign of the text", "abcdefghijklmnopqrstuvwxyz0123456789 .\"/", ARGUMENT, Housestyle::new,
                (y, sign) -> y.put(0, sign, 0));
    }

    private void paragraphs() {
        says("A '/' ends a paragraph, the end of the text the last one.");
        String[] texts = {"", "/", "a", "a/", "/a", "a/b", "//", "a//b", "\"/\"", "./."};
        int[] due = {1, 2, 1, 2, 2, 2, 3, 3, 2, 2};
        for (int i = 0; i < texts.length; i++) {
            due("paragraphs of <" + texts[i] + ">", Checks.with(texts[i]).paragraphs(), due[i]);
        }
        due("none but ends", Checks.with("/".repeat(160)).paragraphs(), 161);
        due("full without an end", Checks.with("a".repeat(160)).paragraphs(), 1);
    }

    private void tokens() {
        says("Tokens are the longest rows of letters, which are words, and of digits, which are numbers.");
        String[] texts = {"", " ./ .", "a", "z", "0", "9", "azby", "0918", "a0", "0a", "a b", "a.b", "a/b", "1 2", "1.2",
            "1/2", "a1b2", " a ", "/a/"};
        int[] due = {0, 0, 1, 1, 1, 1, 1, 1, 2, 2, 2, 2, 2, 2, 2, 2, 4, 1, 1};
        for (int i = 0; i < texts.length; i++) {
            due("tokens of <" + texts[i] + ">", Checks.with(texts[i]).tokens(false), due[i]);
        }
        due("parted by a quote", Checks.with("a\"b").tokens(false) + Checks.with("a\"b").tokens(true), 2);
        due("one word is the text", Checks.with("z".repeat(160)).tokens(false), 1);
        due("one number is the text", Checks.with("9".repeat(160)).tokens(false), 1);
        due("as many as signs", Checks.with("9z".repeat(80)).tokens(false), 160);
        dueFound("*", "z".repeat(160), "0@0+160");
        dueFound("#", "0".repeat(160), "0@0+160");
        dueFound("*", "az09za", "0@0+2 0@4+2");
        dueFound("#", "az09za", "0@2+2");
        dueFound("ab", "xab abx ab1 1ab", "0@8+2 0@13+2");
        Housestyle x = withRules("a 7", "*", 5, "#", 5);
        due("a word and a number", Checks.found(x, 0), "0@0+1 1@2+1");
        x.take(0);
        x.put(0, '8', 0);
        x.take(2);
        x.put(2, 'b', 0);
        due("a number and a word after the edits", Checks.found(x, 0), "1@0+1 0@2+1");
    }

    private void sentences() {
        says("A sentence begins with a paragraph, and behind each '.'.");
        String[] texts = {"ab", " ab", "\"ab", "7ab", "7 ab", "ab ab", "x.ab", "x. ab ab", "x... ab", "x/ab", "x/.ab",
            "x/7 ab", ".ab.ab", "x \".ab", "x.7.ab", "x ab.", "x.7ab", "x./ab", "/ab", "x\"ab", "x./7 ab"};
        String[] first = {"0@0+2", "0@1+2", "0@1+2", "", "", "0@0+2", "0@2+2", "0@3+2", "0@5+2", "0@2+2", "0@3+2",
            "", "0@1+2 0@4+2", "0@4+2", "0@4+2", "", "", "0@3+2", "0@1+2", "", ""};
        String[] others = {"", "", "", "0@1+2", "0@2+2", "0@3+2", "", "0@6+2", "", "", "",
            "0@4+2", "", "", "", "0@2+2", "0@3+2", "", "", "0@2+2", "0@5+2"};
        for (int i = 0; i < texts.length; i++) {
            Housestyle x = Checks.with(texts[i]);
            Checks.rule(x, "ab", 's', true, 5);
            due("first in <" + texts[i] + ">", Checks.found(x, 0), first[i]);
            Housestyle y = Checks.with(texts[i]);
            Checks.rule(y, "ab", 'm', true, 5);
            due("not first in <" + texts[i] + ">", Checks.found(y, 0), others[i]);
        }
        Housestyle x = Checks.with("x ab");
        Checks.rule(x, "ab", 's', false, 5);
        due("not the first", Checks.found(x, 0), "");
        for (char sign : new char[] {'.', '/'}) {
            x.put(1, sign, 0);
            due("the first after an edit", Checks.found(x, 0), "0@3+2");
            x.take(1);
            due("not the first after another one", Checks.found(x, 0), "");
        }
    }

    private void quotes() {
        says("A quote reaches from a '\"' to the next one in its paragraph, or to the end of that, both signs counted"
                + " in; the next '\"' behind it begins another one.");
        String[] texts = {"a", "\"a", "a\"", "\"a\"", "\"a\"a", "\"a\"a\"a", "\"\"a", "\"a/a", "\"/a", "\"a/\"a/a",
            "\"a\"\"a\"a", "\"\"\"a", "/\"a", "a/\"", "\"a.a a", "\"a1\"1", "\"a\"/a\"a"};
        int[] outside = {1, 0, 1, 0, 1, 1, 1, 1, 1, 1, 1, 0, 0, 1, 0, 1, 1};
        int[] inside = {0, 1, 0, 1, 1, 2, 0, 1, 0, 2, 2, 1, 1, 0, 3, 2, 2};
        for (int i = 0; i < texts.length; i++) {
            Housestyle x = Checks.with(texts[i]);
            due("outside in <" + texts[i] + ">", x.tokens(false), outside[i]);
            due("inside in <" + texts[i] + ">", x.tokens(true), inside[i]);
        }
        due("to the end of a full text", Checks.with("\"" + "a ".repeat(79) + "a").tokens(true), 80);
        due("the last sign ends it", Checks.with("\"" + "a".repeat(158) + "\"").tokens(true), 1);
        due("no quote but its signs", Checks.with("\"".repeat(160)).tokens(true), 0);
    }

    private void writers() {
        says("Each sign has a writer, 0 to 3, by whom it came.");
        Housestyle x = new Housestyle();
        Checks.rule(x, "*");
        for (int writer = 3; writer >= 0; writer--) {
            x.put(0, ' ', (writer + 1) % 4);
            x.put(0, 'a', writer);
        }
        for (int writer = 0; writer < 4; writer++) {
            due("the writer of the finding " + writer, x.of(0, writer, 'w'), writer);
            due("findings of the writer " + writer, x.byWriter(0, writer), 1);
        }
        x.put(2, 'b', 3);
        due("the first sign's one", x.of(0, 1, 'w'), 3);
        x.take(2);
        due("the sign behind has kept its own", x.of(0, 1, 'w'), 1);
        x.take(2);
        x.put(2, 'a', 0);
        due("that by whom it came last", x.of(0, 1, 'w'), 0);
        x.take(0);
        due("the others have kept theirs", x.of(0, 0, 'w') + "," + x.of(0, 1, 'w') + "," + x.of(0, 2, 'w'), "0,2,3");
        x.take(3);
        x.put(0, 'b', 1);
        due("kept again", x.of(0, 0, 'w') + "," + x.of(0, 1, 'w') + "," + x.of(0, 2, 'w'), "1,0,3");
        Checks.onlyFrom("a writer", 0, 3, ARGUMENT, Housestyle::new, (y, writer) -> y.put(0, 'a', writer));
    }

    private void patterns() {
        says("A pattern is typed, at most 20 signs: one to three items with '-' between them.");
        String three = "abcdef-abcdef-abcdef";
        dueFound(TWENTY_LETTERS, "a " + TWENTY_LETTERS, "0@2+20");
        dueFound(three, three.replace('-', ' '), "0@0+20");
        dueFound("a", "a", "0@0+1");
        dueFound("a-b", "a b", "0@0+3");
        dueFound("a-b-c", "a b c", "0@0+5");
        dueFound("*-#-*", "a 1 c", "0@0+5");
        String[] others = {"", "-", "--", "a-", "-a", "a--b", "-a-b", "a-b-", "a-b-c-", "a-b-c-d", "*-*-*-*", "#-#-#-#",
            "-------------------", "a-b-c-d-e-f-g-h-i-j"};
        for (String other : others) {
            Housestyle x = new Housestyle();
            Checks.type(x, other);
            dueThrow("no pattern <" + other + ">", FORM, () -> x.rule('a', true, 5));
        }
        Housestyle full = new Housestyle();
        Checks.type(full, TWENTY_LETTERS);
        dueThrow("one sign more", STATE, () -> full.type('u'));
    }

    private void items() {
        says("An item is letters, which is that word; letters and '*', which is a word that begins with them, perhaps"
                + " that alone; '*', which is any word; or '#', which is any number.");
        String[][] fits = {{"ab", "ab"}, {"ab*", "ab", "abc", "abz", "abab"}, {"*", "a", "z", "ab", TWENTY_LETTERS},
            {"#", "0", "9", "007", "123456789012345678901234567890"}, {"z", "z"}, {"a*", "a", "aa"}};
        String[][] others = {{"ab", "a", "b", "abc", "cab", "ba", "aab", "7"}, {"ab*", "a", "b", "ba", "cab", "aab", "12"},
            {"*", "7", "09"}, {"#", "a", "az"}, {"z", "a", "y", "zz"}, {"a*", "b", "ba", "0"}};
        for (int i = 0; i < fits.length; i++) {
            for (int k = 1; k < fits[i].length; k++) {
                dueFound(fits[i][0], fits[i][k], "0@0+" + fits[i][k].length());
            }
            for (int k = 1; k < others[i].length; k++) {
                dueFound(others[i][0], others[i][k], "");
            }
        }
        String[] noItems = {"a*b", "**", "*a", "##", "#a", "a#", "#*", "*#", "a b", " a", "a ", " ", "7", "a7", "7a", "a-7",
            "a-b*c", "a-#-**", "a-#*", "a--", "7*", " *"};
        for (String other : noItems) {
            Housestyle x = new Housestyle();
            Checks.type(x, other);
            dueThrow("no item <" + other + ">", FORM, () -> x.rule('a', true, 5));
        }
        dueFound("abcdefghijklmnopqrs*", TWENTY_LETTERS, "0@0+20");
    }

    private void spans() {
        says("A pattern is found at a token if that one and those behind it fit its items, with just one ' ' between"
                + " each two; its span is from the first sign of the first one to the last sign of the last one.");
        String[] texts = {"a 7 b", "a  7 b", "a 7  b", "a7 b", "a 7b", "a 7", "a 7 ", "a", "a.7 b", "a. 7 b", "a 7 .b",
            "a/7 b", "a 7/b", "a 7 /b", "a \"7 b", "x a 7 b", "a 7 b 7", "a a 7 b", " a 7 b ", "a 7 7 b", "b 7 a", "\"a 7 b\"",
            "a 7 b a 7 b", "a 7 b.a 7 b", "xa 7 bx", "a\"7 b"};
        String[] due = {"0@0+5", "", "", "", "", "", "", "", "", "", "",
            "", "", "", "", "0@2+5", "0@0+5", "0@2+5", "0@1+5", "", "", "0@1+5",
            "0@0+5 0@6+5", "0@0+5 0@6+5", "", ""};
        for (int i = 0; i < texts.length; i++) {
            dueFound("a-#-b", texts[i], due[i]);
        }
        dueFound("*-*", "a".repeat(80) + " " + "b".repeat(79), "0@0+160");
        dueFound("*-*-*", "a b " + "c".repeat(156), "0@0+160");
        dueFound("a-b", ".".repeat(157) + "a b", "0@157+3");
        dueFound("a-b-c", ".".repeat(157) + "a b", "");
        dueFound("a-b", "ab", "");
    }

    private void rules() {
        says("At most 12 rules are numbered from 0, each with a pattern, a condition, 'a' always, 's' the first token is"
                + " the first one of its sentence, 'm' it is not, and a rank, 1 to 9.");
        Housestyle x = Checks.with("a b c d e f g h i j k l m");
        for (int i = 0; i < 12; i++) {
            String pattern = String.valueOf((char) ('a' + i));
            due("the number " + i, Checks.rule(x, pattern, "ams".charAt(i == 0 ? 2 : i % 2), false, 1 + i % 9), i);
        }
        Checks.type(x, "m");
        dueThrow("the rule 13", STATE, () -> x.rule('a', false, 5));
        due("each one is found", Checks.found(x, 0),
                "0@0+1 1@2+1 2@4+1 3@6+1 4@8+1 5@10+1 6@12+1 7@14+1 8@16+1 9@18+1 10@20+1 11@22+1");
        for (int i = 0; i < 12; i++) {
            due("the rank of the rule " + i, x.of(0, i, 'k'), 1 + i % 9);
        }
        Checks.onlySigns("a condition", "asm", ARGUMENT, TermsTest::withPattern, (y, sign) -> y.rule(sign, true, 5));
        Checks.onlyFrom("a rank", 1, 9, ARGUMENT, TermsTest::withPattern, (y, rank) -> y.rule('a', true, rank));
        Housestyle always = Checks.with("ab ab");
        Checks.rule(always, "ab", 'a', false, 5);
        due("always", Checks.found(always, 0), "0@0+2 0@3+2");
        Housestyle several = Checks.with("x ab cd. ab cd");
        Checks.rule(several, "ab-cd", 's', false, 5);
        Checks.rule(several, "cd", 's', false, 9);
        due("the first token of several", Checks.found(several, 0), "0@9+5");
    }

    private static Housestyle withPattern() {
        Housestyle x = new Housestyle();
        x.type('a');
        return x;
    }

    private void rulesInQuotes() {
        says("A rule is left alone in a quote if one of the signs of its span is in one, but for rules that look into"
                + " quotes.");
        String[] texts = {"ab cd", "\"ab cd\"", "\"ab cd", "\"x\" ab cd", "ab cd\"", "ab cd\"x\"", "\"\"ab cd", "\"x/ab cd",
            "\"x\"ab cd\"x\"", "\"x\"\"ab cd\"", "ab \"cd\"", "\"ab\" cd"};
        String[] outside = {"0@0+5", "", "", "0@4+5", "0@0+5", "0@0+5", "0@2+5", "0@3+5", "0@3+5", "", "", ""};
        String[] all = {"0@0+5", "0@1+5", "0@1+5", "0@4+5", "0@0+5", "0@0+5", "0@2+5", "0@3+5", "0@3+5", "0@4+5", "", ""};
        for (int i = 0; i < texts.length; i++) {
            Housestyle x = Checks.with(texts[i]);
            Checks.rule(x, "ab-cd", 'a', false, 5);
            due("left alone in <" + texts[i] + ">", Checks.found(x, 0), outside[i]);
            dueFound("ab-cd", texts[i], all[i]);
        }
    }

    private void exceptions() {
        says("A rule has at most 3 exceptions, each a word: it is not found where the token ahead of its span, in the"
                + " paragraph, is this word.");
        String[] texts = {"ab", "x ab", "x. ab", "x.ab", "x/ab", "x/ ab", "x 7 ab", "x7ab", "xx ab", "\"x\" ab", "x  ab",
            "x\"\"ab", "x y ab", "ab x", "/x ab", "x ab ab", "7 ab", "x/7/ab"};
        String[] due = {"0@0+2", "", "", "", "0@2+2", "0@3+2", "0@4+2", "0@2+2", "0@3+2", "", "",
            "", "0@4+2", "0@0+2", "", "0@5+2", "0@2+2", "0@4+2"};
        for (int i = 0; i < texts.length; i++) {
            Housestyle x = Checks.with(texts[i]);
            Checks.rule(x, "ab", 'a', true, 5);
            Checks.except(x, 0, "x");
            due("an exception in <" + texts[i] + ">", Checks.found(x, 0), due[i]);
        }
        Housestyle y = Checks.with("p ab q ab r ab s ab");
        Checks.rule(y, "zz");
        Checks.rule(y, "ab");
        String[] words = {"p", "q", "r"};
        String[] left = {"1@7+2 1@12+2 1@17+2", "1@12+2 1@17+2", "1@17+2"};
        for (int i = 0; i < 3; i++) {
            due("how many", Checks.except(y, 1, words[i]), i + 1);
            due("each one holds", Checks.found(y, 0), left[i]);
        }
        Checks.type(y, "s");
        dueThrow("the fourth", STATE, () -> y.except(1));
        due("another rule's ones", y.except(0), 1);
        due("another rule's ones count not", Checks.found(y, 0), "1@17+2");
        Housestyle z = Checks.with("ab cd");
        Checks.rule(z, "ab-cd");
        Checks.except(z, 0, "ab");
        due("ahead of the span, not in it", Checks.found(z, 0), "0@0+5");
        z.put(0, 'b', 0);
        Checks.write(z, 0, "ab a", 0);
        due("ahead after edits", Checks.textOf(z) + ":" + Checks.found(z, 0), "ab abab cd:");
        z.take(4);
        z.take(4);
        due("excepted", Checks.textOf(z) + ":" + Checks.found(z, 0), "ab ab cd:");
        z.put(2, '/', 0);
        due("in another paragraph after an edit", Checks.found(z, 0), "0@4+5");
        z.take(2);
        due("excepted again", Checks.found(z, 0), "");
    }

    private static String suggested(String pattern, String suggestion, String text) {
        Housestyle x = Checks.with(text);
        Checks.rule(x, pattern);
        Checks.suggest(x, 0, suggestion);
        return Checks.suggested(x, 0, 0, 0);
    }

    private void suggestions() {
        says("It has at most 2 suggestions, typed, of 1 to 20 small letters, digits, ' ' and at most one '*', which stands"
                + " for what is taken by the first '*' of the pattern: the signs of the word behind the letters of the"
                + " item; without one in the pattern it stands for nothing.");
        due("one sign", suggested("a", "z", "a"), "z");
        due("twenty signs", suggested("a", "az09 bcdefghijklmnop", "a"), "az09 bcdefghijklmnop");
        due("twenty signs with a star", suggested("a*", "az09 bcdefghijklmno*", "axy"), "az09 bcdefghijklmnoxy");
        due("only the star", suggested("a*", "*", "axy"), "xy");
        due("the star at the begin", suggested("a*", "*b", "ax"), "xb");
        due("the star between", suggested("a*", "b*c", "ax"), "bxc");
        due("any word", suggested("*", "b*", "xyz"), "bxyz");
        due("the item's letters alone", suggested("xyz*", "b*c", "xyz"), "bc");
        due("nothing at all", suggested("xyz*", "*", "xyz"), "");
        due("the first star, of the second item", suggested("a-b*-*", "*", "a bcd e"), "cd");
        due("the first star, of the third item", suggested("a-#-b*", "*1", "a 7 bcd"), "cd1");
        due("the first star of three", suggested("*-*-*", "*", "x y z"), "x");
        due("the first star takes nothing", suggested("a*-*", "b*", "a y"), "b");
        due("no star in the pattern", suggested("ab", "x*y", "ab"), "xy");
        due("no star in the pattern, only the star", suggested("#", "*", "7"), "");
        due("the whole text", suggested("*", "*", "a".repeat(160)), "a".repeat(160));
        Housestyle x = Checks.with("a");
        Checks.rule(x, "a");
        for (String other : new String[] {"", "**", "a*b*", "* *", "#", "-", "a#", "a-b", "abcdefghijklmnopqr**"}) {
            Checks.type(x, other);
            dueThrow("no suggestion <" + other + ">", FORM, () -> x.suggest(0));
        }
        due("the first", Checks.suggest(x, 0, "b"), 1);
        due("the second, like it", Checks.suggest(x, 0, "b"), 2);
        Checks.type(x, "c");
        dueThrow("the third", STATE, () -> x.suggest(0));
        due("two", x.of(0, 0, 's'), 2);
    }

    private void desks() {
        says("There are the desks 0 to 3, at each of which all rules are used at first, with their ranks; at a desk a rule"
                + " can be left out, or have another rank.");
        Housestyle x = Checks.with("a b");
        Checks.rule(x, "a", 'a', false, 1);
        Checks.rule(x, "b", 'a', false, 9);
        for (int desk = 0; desk < 4; desk++) {
            due("all rules at the desk " + desk, Checks.found(x, desk), "0@0+1 1@2+1");
            due("their ranks at the desk " + desk, x.of(desk, 0, 'k') + "," + x.of(desk, 1, 'k'), "1,9");
        }
        x.use(3, 0, false);
        x.rank(0, 1, 1);
        due("left out at one", Checks.found(x, 3) + ";" + Checks.found(x, 2), "1@2+1;0@0+1 1@2+1");
        due("another rank at one", x.of(0, 1, 'k') + "," + x.of(1, 1, 'k'), "1,9");
        Checks.rule(x, "*", 'a', false, 5);
        due("a rule that is told later is used", Checks.found(x, 3) + ";" + Checks.found(x, 0),
                "2@0+1 1@2+1;2@0+1 2@2+1");
        Checks.onlyFrom("a desk", 0, 3, ARGUMENT, Housestyle::new, Housestyle::findings);
    }

    private void smallNumbers() {
        says("A desk has a limit for numbers, 0 to 20, 0 at first: a number whose value is less is found, outside quotes,"
                + " as the rule 20, with the rank 1.");
        String[] all = {"0", "1", "19", "20", "21", "00", "019", "020", "100"};
        int[] values = {0, 1, 19, 20, 21, 0, 19, 20, 100};
        for (int limit = 0; limit <= 20; limit++) {
            for (int i = 0; i < all.length; i++) {
                Housestyle x = Checks.with(all[i]);
                due("the limit at first", x.limit(2, limit), 0);
                due(all[i] + " below " + limit, Checks.found(x, 2), values[i] < limit ? "20@0+" + all[i].length() : "");
                due("at another desk", x.findings(1), 0);
            }
        }
        // Values that are small, or below nought, where 8, 16, 32 or 64 bits wrap around.
        String[] great = {"128", "255", "256", "257", "32768", "65535", "65536", "65537", "2147483648", "4294967295",
            "4294967296", "4294967297", "9223372036854775808", "18446744073709551615", "18446744073709551616",
            "18446744073709551617", "100000000000000000000", "9".repeat(160), "1" + "0".repeat(159)};
        for (String number : great) {
            Housestyle x = Checks.with(number);
            x.limit(0, 20);
            due("no small number: " + number, x.findings(0), 0);
        }
        Housestyle zeros = Checks.with("0".repeat(158) + "19");
        zeros.limit(0, 20);
        due("zeros ahead", Checks.found(zeros, 0), "20@0+160");
        Housestyle x = Checks.with("\"7\" 7 \"7/7a \"7");
        x.limit(0, 20);
        due("outside quotes", Checks.found(x, 0), "20@4+1 20@9+1");
        due("its rank", x.of(0, 0, 'k'), 1);
        Checks.onlyFrom("a limit", 0, 20, ARGUMENT, Housestyle::new, (y, limit) -> y.limit(0, limit));
    }

    private void pairs() {
        says("At most 4 pairs of unlike words are numbered from 0.");
        Housestyle x = Checks.with("a b c d e f g h i j");
        String[] pairs = {"a b", "c d", "e f", "g h"};
        for (int i = 0; i < 4; i++) {
            due("the number " + i, Checks.pair(x, pairs[i]), i);
        }
        Checks.type(x, "i j");
        dueThrow("the fifth", STATE, () -> x.pair());
        due("each one is found", Checks.found(x, 0), "12@2+1 13@6+1 14@10+1 15@14+1");
        Housestyle y = new Housestyle();
        for (String other : new String[] {"a a", "abcdefghi abcdefghi", "", " ", "a", "a ", " a", "a  b", " a b", "a b ",
            "a b c", "a 1", "1 a", "a* b", "a b*", "a #", "a-b", "a b-c"}) {
            Checks.type(y, other);
            dueThrow("no pair <" + other + ">", FORM, () -> y.pair());
        }
        due("unlike in the last sign", Checks.pair(y, "abcdefghi abcdefghj"), 0);
        due("unlike in length", Checks.pair(y, "a aa"), 1);
        due("the longest", Checks.pair(y, "a abcdefghijklmnopqr"), 2);
        due("the same words again", Checks.pair(y, "aa a"), 3);
    }

    private void pairsFound() {
        says("Of the words of a pair outside quotes the first one in the text decides; each other one that is the other"
                + " word is found, as the rule 12 more than the pair, with the rank 5, and one suggestion, the word that"
                + " decides.");
        String[] texts = {"", "ab", "cd", "ab ab", "ab cd", "cd ab", "ab cd ab cd", "\"cd\" ab cd", "\"cd\" \"ab", "ab \"cd\" cd",
            "ab/cd", "abcd ab cdx cd", "ab.cd7ab", "x cd x ab", "cd \"ab/ab"};
        String[] due = {"", "", "", "", "12@3+2", "12@3+2", "12@3+2 12@9+2", "12@8+2", "", "12@8+2",
            "12@3+2", "12@12+2", "12@3+2", "12@7+2", "12@7+2"};
        for (int i = 0; i < texts.length; i++) {
            Housestyle x = Checks.with(texts[i]);
            Checks.pair(x, "ab cd");
            due("the pair in <" + texts[i] + ">", Checks.found(x, 0), due[i]);
            Housestyle y = Checks.with(texts[i]);
            Checks.pair(y, "cd ab");
            due("told the other way in <" + texts[i] + ">", Checks.found(y, 0), due[i]);
        }
        Housestyle x = Checks.with("ab cd");
        Checks.pair(x, "p q");
        Checks.pair(x, "r s");
        Checks.pair(x, "t u");
        Checks.pair(x, "cd ab");
        due("the fourth one's rule, rank and suggestions", x.of(0, 0, 'r') + "," + x.of(0, 0, 'k') + "," + x.of(0, 0, 's'),
                "15,5,1");
        due("the word that decides", Checks.suggested(x, 0, 0, 0), "ab");
        dueThrow("no second suggestion", ELEMENT, () -> x.size(0, 0, 1));
        Checks.write(x, 0, "cd ", 0);
        due("the other one decides now", Checks.found(x, 0) + "," + Checks.suggested(x, 0, 0, 0), "15@3+2,cd");
        for (int i = 0; i < 12; i++) {
            Checks.rule(x, "p");
        }
        Checks.write(x, x.length(), " s r q", 0);
        due("beside as many rules as there can be", Checks.found(x, 0), "15@3+2 13@11+1");
        Checks.write(x, x.length(), " p", 0);
        x.ignore(0, 0);
        x.rank(0, 11, 9);
        due("as the rule 12 or more", Checks.found(x, 0), "13@11+1 11@15+1");
        for (int i = 0; i < 12; i++) {
            x.use(0, i, false);
        }
        due("the first pair's", Checks.found(x, 0), "13@11+1 12@15+1");
        due("its one suggestion", x.of(0, 1, 's') + "," + Checks.suggested(x, 0, 1, 0), "1,q");
    }

    private static Housestyle withRules(String text, Object... patternsAndRanks) {
        Housestyle x = Checks.with(text);
        for (int i = 0; i < patternsAndRanks.length; i += 2) {
            Checks.rule(x, (String) patternsAndRanks[i], 'a', true, (Integer) patternsAndRanks[i + 1]);
        }
        return x;
    }

    private static void dueSolved(String what, String want, String text, Object... patternsAndRanks) {
        due(what, Checks.found(withRules(text, patternsAndRanks), 0), want);
    }

    private void clashes() {
        says("The findings of a desk are taken one by one out of all that is found for it and is not ignored at it: those"
                + " of greater rank first, of like ones the earlier first sign, then the longer span, then the lower rule;"
                + " one whose span has a sign in common with one taken is left out.");
        dueSolved("none", "", "a b c", "x", 5);
        dueSolved("the greater rank ahead of the earlier", "1@2+1", "a b", "a-b", 8, "b", 9);
        dueSolved("the greater rank ahead of the longer", "1@0+1", "a b", "a-b", 1, "a", 2);
        dueSolved("the greater rank ahead of the lower rule", "1@0+1", "a", "a", 1, "*", 9);
        dueSolved("the earlier first sign ahead of the longer", "1@0+3", "a b c d", "b-c-d", 5, "a-b", 5);
        dueSolved("the earlier first sign ahead of the lower rule", "1@0+3", "a b c", "b-c", 5, "a-b", 5);
        dueSolved("the longer span ahead of the lower rule", "1@0+3", "a b", "a", 5, "a-b", 5);
        dueSolved("the longest of three", "2@0+5", "a b c", "a", 5, "a-b", 5, "a-b-c", 5);
        dueSolved("the lower rule", "0@0+1", "a", "a", 5, "*", 5, "a*", 5);
        dueSolved("one sign in common at the end", "0@0+3", "a b c", "a-b", 5, "b-c", 5);
        dueSolved("one sign in common at the begin", "1@2+3", "a b c", "a-b", 5, "b-c", 6);
        dueSolved("next to each other", "0@0+3 1@4+3", "a b c d", "a-b", 5, "c-d", 5);
        dueSolved("without a sign between", "0@0+1 1@1+1 0@2+1", "a7b", "*", 5, "#", 4);
        dueSolved("left out ones leave nothing out", "1@2+3 2@6+1", "a b c d", "a-b", 4, "b-c", 5, "d", 3);
        dueSolved("one in a longer one", "1@2+1 2@4+1", "a b c", "a-b-c", 5, "b", 6, "c", 1);
        dueSolved("the shorter one where the longer clashes", "2@0+1 0@2+3", "a b c", "b-c", 9, "a-b", 5, "a", 5);
        dueSolved("the same rule with itself", "0@0+3 0@4+3", "a a a a a", "a-a", 5);
        Housestyle x = withRules("a b", "a-b", 5, "a", 5, "*", 5, "b", 5);
        due("first", Checks.found(x, 0), "0@0+3");
        x.ignore(0, 0);
        due("what is ignored leaves nothing out", Checks.found(x, 0) + ";" + Checks.found(x, 1), "1@0+1 2@2+1;0@0+3");
        x.ignore(0, 1);
        x.ignore(0, 0);
        due("then the next of each", Checks.found(x, 0), "2@0+1 3@2+1");
        Housestyle y = withRules("b a 7", "a", 4, "#", 1);
        Checks.pair(y, "b a");
        y.limit(0, 20);
        due("a pair above four, a rule ahead of the small numbers", Checks.found(y, 0), "12@2+1 1@4+1");
        y.rank(0, 0, 5);
        due("a rule ahead of a pair", Checks.found(y, 0), "0@2+1 1@4+1");
    }

    private void numbersOfFindings() {
        says("They are numbered from 0 by their first signs.");
        Housestyle x = withRules("a b c d", "a", 1, "b", 9, "c", 5, "d", 7);
        due("not by their ranks", Checks.found(x, 0), "0@0+1 1@2+1 2@4+1 3@6+1");
        due("the first", x.of(0, 0, 'f'), 0);
        due("the last", x.of(0, 3, 'f'), 6);
        dueThrow("behind the last", ELEMENT, () -> x.of(0, 4, 'f'));
        dueThrow("ahead of the first", ELEMENT, () -> x.of(0, -1, 'f'));
        Housestyle full = withRules("a1".repeat(80), "*", 5, "#", 6);
        due("as many as can be", full.findings(0), 160);
        due("the last of them", full.of(0, 159, 'f') + "," + full.of(0, 159, 'r'), "159,1");
        dueThrow("behind the last of them", ELEMENT, () -> full.of(0, 160, 'f'));
    }

    private void edits() {
        says("A sign is put in ahead of a place, or taken out.");
        Housestyle x = new Housestyle();
        x.put(0, 'c', 0);
        x.put(0, 'a', 0);
        x.put(1, 'b', 0);
        x.put(3, 'd', 0);
        due("put in", Checks.textOf(x), "abcd");
        dueThrow("behind the end", INDEX, () -> x.put(5, 'e', 0));
        due("the first", x.take(0), 'a');
        due("the last", x.take(2), 'd');
        due("taken out", Checks.textOf(x), "bc");
        dueThrow("behind the last", INDEX, () -> x.take(2));
        due("all", x.take(1) + "" + x.take(0), "cb");
        due("empty", x.length(), 0);
        dueThrow("none is left", INDEX, () -> x.take(0));
    }

    /** A text all of which is the span "ab cd" but for signs ahead and behind; it is ignored at the desk 1. */
    private static Housestyle ignoring(String ahead, String behind) {
        Housestyle x = Checks.with(ahead + "ab cd" + behind);
        Checks.rule(x, "ab-cd");
        x.ignore(1, 0);
        return x;
    }

    private void ignored() {
        says("What is ignored at a desk is kept as its rule and span; a span goes on with the edits ahead of it, and is"
                + " forgotten when a sign of it is taken out, or one is put in ahead of a sign of it that is not the first"
                + " one.");
        for (String around : new String[] {"", " ", ". ."}) {
            int from = around.length();
            for (int place = 0; place <= 2 * from + 5; place++) {
                Housestyle x = ignoring(around, around);
                x.put(place, '.', 0);
                boolean isKept = place <= from || place >= from + 5;
                due("put at " + place + ", the span at " + from, x.ignored(1), isKept ? 1 : 0);
                due("not found there", x.findings(1), 0);
                due("found at another desk", x.findings(0), isKept ? 1 : 0);
                x.take(place);
                due("and taken out at " + place, x.ignored(1) + "," + x.findings(1), isKept ? "1,0" : "0,1");
            }
            for (int place = 0; place < 2 * from + 5; place++) {
                Housestyle x = ignoring(around, around);
                char sign = x.take(place);
                boolean isKept = place < from || place >= from + 5;
                due("taken out at " + place + ", the span at " + from, x.ignored(1), isKept ? 1 : 0);
                due("not found there", x.findings(1), 0);
                x.put(place, sign, 0);
                due("and put in at " + place, x.ignored(1) + "," + x.findings(1), isKept ? "1,0" : "0,1");
            }
        }
        ignoredOfOneSign();
        ignoredAtEachDesk();
        ignoredAsRuleAndSpan();
    }

    private static void ignoredOfOneSign() {
        Housestyle x = Checks.with("7");
        Checks.rule(x, "#");
        x.ignore(0, 0);
        x.put(0, ' ', 0);
        due("goes on", x.ignored(0) + "," + x.findings(0), "1,0");
        x.put(2, ' ', 0);
        due("stays", x.ignored(0) + "," + x.findings(0), "1,0");
        x.take(0);
        due("goes back", x.ignored(0) + "," + x.findings(0), "1,0");
        x.take(0);
        due("forgotten", x.ignored(0), 0);
    }

    private static void ignoredAtEachDesk() {
        for (int desk = 0; desk < 4; desk++) {
            Housestyle x = Checks.with("a");
            Checks.rule(x, "a");
            x.ignore(desk, 0);
            x.put(0, '.', 0);
            due("goes on at the desk " + desk, x.ignored(desk) + "," + x.findings(desk), "1,0");
            x.take(0);
            due("goes back at the desk " + desk, x.ignored(desk) + "," + x.findings(desk), "1,0");
            x.take(0);
            due("forgotten at the desk " + desk, x.ignored(desk), 0);
        }
    }

    private static void ignoredAsRuleAndSpan() {
        Housestyle x = Checks.with("a b");
        Checks.rule(x, "a*");
        Checks.rule(x, "*");
        x.ignore(0, 0);
        due("another rule with the same span", Checks.found(x, 0), "1@0+1 1@2+1");
        x.put(1, 'c', 0);
        due("another span of the rule", x.ignored(0) + "," + Checks.found(x, 0), "1,0@0+2 1@3+1");
        x.take(1);
        due("the span again", Checks.found(x, 0), "1@0+1 1@2+1");
        x.put(0, 'x', 0);
        due("kept though not found", x.ignored(0) + "," + Checks.found(x, 0), "1,1@0+2 1@3+1");
        x.use(0, 0, false);
        x.use(0, 0, true);
        x.take(0);
        due("kept as the rule is left out and used", Checks.found(x, 0), "1@0+1 1@2+1");
        Housestyle lengths = Checks.with("a bb ccc d");
        Checks.rule(lengths, "*");
        for (int i = 0; i < 3; i++) {
            lengths.ignore(0, 0);
        }
        lengths.take(0);
        due("the first is forgotten, longer ones are kept", lengths.ignored(0) + "," + Checks.found(lengths, 0), "2,0@8+1");
        lengths.put(6, 'c', 0);
        due("the longest is forgotten", lengths.ignored(0) + "," + Checks.found(lengths, 0), "1,0@4+4 0@9+1");
        Housestyle many = Checks.with("a ".repeat(20));
        Checks.rule(many, "a");
        for (int i = 0; i < 20; i++) {
            many.ignore(0, 0);
        }
        many.put(0, '.', 0);
        due("all go on", many.ignored(0) + "," + many.findings(0), "20,0");
        many.take(1);
        due("the first is forgotten", many.ignored(0) + "," + many.findings(0), "19,0");
        many.take(38);
        due("the last is forgotten", many.ignored(0) + "," + many.findings(0), "18,0");
        many.heed(0);
        due("those that are left are found", many.findings(0), 18);
    }

    private void applied() {
        says("To apply a suggestion takes the signs of the span out and puts its own in, one by one, by a writer.");
        Housestyle x = Checks.with("7 ab cd7 ef");
        Checks.rule(x, "ab-cd");
        Checks.suggest(x, 0, "p q1");
        Checks.rule(x, "#", 'a', false, 1);
        Checks.rule(x, "cd", 'a', false, 9);
        Checks.rule(x, "ef", 'a', false, 9);
        x.use(0, 2, false);
        x.ignore(0, 2);
        x.ignore(0, 0);
        x.ignore(3, 1);
        x.ignore(3, 2);
        due("the length then", x.apply(0, 0, 0, 3), 10);
        due("the text", Checks.textOf(x), "7 p q17 ef");
        due("what was ignored around it", x.ignored(0) + "," + Checks.found(x, 0), "2,1@5+2 3@8+2");
        due("what was ignored in it", x.ignored(3) + "," + Checks.found(x, 3), "1,1@0+1 1@5+2 3@8+2");
        Checks.rule(x, "*", 'a', false, 9);
        due("its writer", x.of(0, 1, 'w') + "," + x.of(0, 0, 'w'), "3,3");
        due("the other signs' writer", x.of(3, 0, 'w'), 0);
        Housestyle y = Checks.with("ab");
        Checks.rule(y, "ab*");
        Checks.suggest(y, 0, "*");
        Checks.suggest(y, 0, "abc");
        y.ignore(1, 0);
        due("nothing is put in", y.apply(0, 0, 0, 1), 0);
        due("empty", y.length() + "," + y.ignored(1) + "," + y.paragraphs(), "0,0,1");
    }

    /** Three paragraphs, nothing of which changed for any desk. */
    private static Housestyle checked() {
        return checked("ab/cd/ef");
    }

    private static Housestyle checked(String text) {
        Housestyle x = Checks.with(text);
        Checks.rule(x, "ab*");
        Checks.suggest(x, 0, "ab");
        Checks.suggest(x, 0, "*");
        for (int desk = 0; desk < 4; desk++) {
            x.check(desk);
        }
        return x;
    }

    private static String changes(Housestyle x) {
        return x.check(0) + "," + x.check(1) + "," + x.check(2) + "," + x.check(3);
    }

    private void changed() {
        says("Each desk has paragraphs that changed since it was checked last: those in which a sign was put in or taken"
                + " out, a '/' that comes or goes being in that which it ends, or ended, and all as a rule, an exception,"
                + " a suggestion, a pair or this desk's settings are told, though they be as they were.");
        due("none", changes(checked()), "0,0,0,0");
        for (int place = 0; place <= 8; place++) {
            Housestyle x = checked();
            x.put(place, '.', 0);
            due("put in at " + place, changes(x), "1,1,1,1");
            due("and checked again", changes(x), "0,0,0,0");
            x.put(place, '.', 0);
            x.take(place);
            due("put in and taken out at " + place, changes(x), "1,1,1,1");
        }
        for (String text : new String[] {"ab/cd/ef", "/a//b/", "///", "a"}) {
            changedBySigns(text);
        }
        changedByApply();
        changedByTelling();
        changedBySettings();
        changedByNothing();
    }

    private static int slashes(String text) {
        return text.length() - text.replace("/", "").length();
    }

    /** Two signs that are put in, or one that is taken out, at all places of a text, also beside each '/'. */
    private static void changedBySigns(String text) {
        for (int first = 0; first <= text.length(); first++) {
            for (int second = first; second <= text.length(); second++) {
                Housestyle x = checked(text);
                x.put(second, '.', 0);
                x.put(first, '.', 0);
                boolean isOne = slashes(text.substring(first, second)) == 0;
                due("put in at " + first + " and " + second + " of " + text, x.check(2), isOne ? 1 : 2);
                due("the paragraphs as before", x.paragraphs(), slashes(text) + 1);
            }
        }
        for (int place = 0; place < text.length(); place++) {
            Housestyle x = checked(text);
            boolean isEnd = x.take(place) == '/';
            due("taken out at " + place + " of " + text, changes(x), "1,1,1,1");
            due("the paragraphs then", x.paragraphs(), slashes(text) + (isEnd ? 0 : 1));
        }
    }

    private static void changedByApply() {
        Housestyle x = checked();
        x.apply(0, 0, 0, 0);
        due("applied though it be as it was", changes(x), "1,1,1,1");
        x.apply(0, 0, 1, 0);
        due("taken out, nothing put in", Checks.textOf(x) + "," + changes(x), "/cd/ef,1,1,1,1");
    }

    private static void changedByTelling() {
        Housestyle x = checked();
        Checks.rule(x, "ab*");
        due("a rule", changes(x), "3,3,3,3");
        Checks.except(x, 0, "zz");
        due("an exception", changes(x), "3,3,3,3");
        Checks.except(x, 0, "zz");
        due("the same exception", changes(x), "3,3,3,3");
        Checks.suggest(x, 1, "zz");
        due("a suggestion", changes(x), "3,3,3,3");
        Checks.pair(x, "zz yy");
        due("a pair", changes(x), "3,3,3,3");
        Checks.pair(x, "zz yy");
        due("the same pair", changes(x), "3,3,3,3");
        x.put(0, '.', 0);
        Checks.pair(x, "zz yy");
        due("once though changed twice", changes(x), "3,3,3,3");
    }

    private static void changedBySettings() {
        for (int desk = 0; desk < 4; desk++) {
            String want = "0,0,0,0,".substring(0, 2 * desk) + "3" + ",0,0,0".substring(0, 6 - 2 * desk);
            Housestyle x = checked();
            x.use(desk, 0, true);
            due("used as it was", changes(x), want);
            x.use(desk, 0, false);
            due("left out", changes(x), want);
            x.rank(desk, 0, 0);
            due("its own rank as it was", changes(x), want);
            x.rank(desk, 0, 9);
            due("another rank", changes(x), want);
            x.limit(desk, 0);
            due("the limit as it was", changes(x), want);
            x.limit(desk, 20);
            due("another limit", changes(x), want);
        }
    }

    private static void changedByNothing() {
        Housestyle x = checked();
        x.type('a');
        x.wipe();
        x.ignore(0, 0);
        x.heed(0);
        x.findings(0);
        x.checksum();
        x.isSound();
        x.tokens(true);
        due("neither typed, ignored nor asked", changes(x), "0,0,0,0");
    }

    private void parted() {
        says("A paragraph that is parted by a '/' changed in both parts; two that become one have changed.");
        for (int place = 0; place <= 8; place++) {
            Housestyle x = checked();
            x.put(place, '/', 0);
            due("parted at " + place, x.paragraphs() + ":" + changes(x), "4:2,2,2,2");
            x.take(place);
            due("one again at " + place, x.paragraphs() + ":" + changes(x), "3:1,1,1,1");
        }
        Housestyle x = checked();
        x.put(8, '.', 0);
        x.check(0);
        x.put(1, '/', 0);
        due("the others stay as they were", changes(x), "2,3,3,3");
        x.put(0, '.', 0);
        x.check(1);
        x.take(6);
        due("joined behind one that changed", changes(x), "2,1,2,2");
        Housestyle y = checked();
        y.put(0, '.', 0);
        y.take(3);
        due("two, one of which changed, are one", changes(y), "1,1,1,1");
        Housestyle full = Checks.with("/".repeat(160));
        due("as many as can be", changes(full), "161,161,161,161");
        full.take(159);
        due("the last one went", full.paragraphs() + ":" + changes(full), "160:1,1,1,1");
        full.put(159, '/', 0);
        due("the last one came", full.paragraphs() + ":" + changes(full), "161:2,2,2,2");
        full.take(0);
        due("the first one went", full.paragraphs() + ":" + changes(full), "160:1,1,1,1");
    }

    private void changedAtFirst() {
        says("At first the only paragraph, which is empty, changed.");
        Housestyle x = new Housestyle();
        due("at each desk", changes(x), "1,1,1,1");
        due("and not again", changes(x), "0,0,0,0");
        Housestyle y = new Housestyle();
        y.put(0, 'a', 0);
        due("once though a sign came too", changes(y), "1,1,1,1");
        Housestyle z = new Housestyle();
        z.check(0);
        z.put(0, '/', 0);
        due("parted", changes(z), "2,2,2,2");
    }

    private void exceptionsOfCalls() {
        says("A method that throws an exception changes nothing.");
        Housestyle x = Checks.with("a".repeat(160));
        x.check(0);
        dueThrow("full", STATE, () -> x.put(3, '/', 2));
        due("nothing changed", x.length() + "," + x.paragraphs() + "," + x.check(0) + "," + x.at(3), "160,1,0,a");
        says("If several conditions of a method apply, the exception that is listed first is thrown.");
        dueThrow("place, sign, writer and full", INDEX, () -> x.put(161, '-', 4));
        dueThrow("sign, writer and full", ARGUMENT, () -> x.put(160, '-', 4));
        dueThrow("full", STATE, () -> x.put(160, '.', 3));
    }

    private void all() {
        calls();
        textSigns();
        paragraphs();
        tokens();
        sentences();
        quotes();
        writers();
        patterns();
        items();
        spans();
        rules();
        rulesInQuotes();
        exceptions();
        suggestions();
        desks();
        smallNumbers();
        pairs();
        pairsFound();
        clashes();
        numbersOfFindings();
        edits();
        ignored();
        applied();
        changed();
        parted();
        changedAtFirst();
        exceptionsOfCalls();
        sentences.end();
    }

    public static void main(String[] args) throws IOException {
        new TermsTest().all();
        Checks.end("TermsTest");
    }
}
