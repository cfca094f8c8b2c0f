import java.util.NoSuchElementException;

/** For each promise what it does, its edges, and its exceptions in their order. */
public final class HousestyleTest {
    private static final Class<IllegalArgumentException> ARGUMENT = IllegalArgumentException.class;
    private static final Class<IllegalStateException> STATE = IllegalStateException.class;
    private static final Class<IndexOutOfBoundsException> INDEX = IndexOutOfBoundsException.class;
    private static final Class<UnsupportedOperationException> FORM = UnsupportedOperationException.class;
    private static final Class<NoSuchElementException> ELEMENT = NoSuchElementException.class;
    private static final Class<ArithmeticException> ARITHMETIC = ArithmeticException.class;
    private static final int[] NO_DESKS = {-1, 4, Integer.MIN_VALUE, Integer.MAX_VALUE};

    private HousestyleTest() {
    }

    private static void due(String what, Object got, Object want) {
        Checks.due(what, got, want);
    }

    private static void dueThrow(String what, Class<? extends RuntimeException> want,
            java.util.function.Supplier<?> call) {
        Checks.dueThrow(what, want, call);
    }

    private static void promise1() {
        Housestyle x = new Housestyle();
        due("1 length", x.length(), 0);
        due("1 typed", x.wipe(), 0);
        due("1 paragraphs", x.paragraphs(), 1);
        due("1 tokens", x.tokens(false) + x.tokens(true), 0);
        for (int desk = 0; desk < 4; desk++) {
            int asked = desk;
            due("1 findings", x.findings(desk), 0);
            due("1 ignored", x.ignored(desk), 0);
            due("1 the only paragraph changed", x.check(desk), 1);
            dueThrow("1 no rule", INDEX, () -> x.use(asked, 0, true));
        }
        due("1 isSound", x.isSound(), true);
        due("1 checksum", x.checksum(), 7L);
    }

    private static void promise2() {
        Housestyle x = new Housestyle();
        String all = "azby0918 *#-mnopqrst";
        for (int i = 0; i < all.length(); i++) {
            due("2 type", x.type(all.charAt(i)), i + 1);
        }
        dueThrow("2 full", STATE, () -> x.type('a'));
        dueThrow("2 the sign first", ARGUMENT, () -> x.type('A'));
        due("2 nothing changed", x.wipe(), 20);
        for (char sign : new char[] {'A', 'Z', '`', '{', '/', ':', '.', '"', '+', ')', '_', 0, 'a' + 256, 228, 65535}) {
            dueThrow("2 no sign", ARGUMENT, () -> x.type(sign));
        }
        due("2 nothing typed", x.wipe(), 0);
    }

    private static void promise3() {
        Housestyle x = new Housestyle();
        due("3 empty", x.wipe(), 0);
        Checks.type(x, "abc");
        due("3 three", x.wipe(), 3);
        due("3 wiped", x.wipe(), 0);
    }

    private static void promise4() {
        Housestyle x = new Housestyle();
        due("4 first", x.put(0, 'b', 0), 1);
        due("4 ahead", x.put(0, 'a', 1), 2);
        due("4 at the end", x.put(2, '/', 2), 3);
        due("4 between", x.put(1, '"', 3), 4);
        due("4 text", Checks.textOf(x), "a\"b/");
        Checks.write(x, 4, "z09. y", 0);
        due("4 all signs", Checks.textOf(x), "a\"b/z09. y");
        String state = Checks.stateOf(x);
        dueThrow("4 place", INDEX, () -> x.put(-1, 'a', 0));
        dueThrow("4 place", INDEX, () -> x.put(11, 'a', 0));
        dueThrow("4 place", INDEX, () -> x.put(Integer.MAX_VALUE, 'A', 9));
        for (char sign : new char[] {'A', '*', '#', '-', '`', '{', ':', '\n', 0, 228, 'a' + 256}) {
            dueThrow("4 sign", ARGUMENT, () -> x.put(0, sign, 0));
        }
        dueThrow("4 writer", ARGUMENT, () -> x.put(0, 'a', 4));
        dueThrow("4 writer", ARGUMENT, () -> x.put(0, 'a', -1));
        due("4 nothing changed", Checks.stateOf(x), state);
        Housestyle full = Checks.with("a".repeat(160));
        dueThrow("4 full", STATE, () -> full.put(0, 'a', 0));
        dueThrow("4 full", STATE, () -> full.put(160, '/', 3));
        dueThrow("4 the place first", INDEX, () -> full.put(161, 'A', 4));
        dueThrow("4 the sign next", ARGUMENT, () -> full.put(0, 'A', 0));
        dueThrow("4 the writer next", ARGUMENT, () -> full.put(0, 'a', 4));
        due("4 still full", full.length() + "," + full.paragraphs(), "160,1");
        full.check(0);
        dueThrow("4 full", STATE, () -> full.put(5, 'b', 0));
        due("4 nothing changed for the desk", full.check(0), 0);
    }

    private static void promise5() {
        Housestyle x = Checks.with("a.b/\" 7");
        due("5 middle", x.take(3), '/');
        due("5 first", x.take(0), 'a');
        due("5 last", x.take(4), '7');
        due("5 text", Checks.textOf(x), ".b\" ");
        dueThrow("5 place", INDEX, () -> x.take(4));
        dueThrow("5 place", INDEX, () -> x.take(-1));
        dueThrow("5 place", INDEX, () -> x.take(Integer.MIN_VALUE));
        due("5 nothing changed", Checks.textOf(x), ".b\" ");
        dueThrow("5 empty", INDEX, () -> new Housestyle().take(0));
    }

    private static void promise6() {
        Housestyle x = Checks.with("ab/");
        due("6 first", x.at(0), 'a');
        due("6 last", x.at(2), '/');
        dueThrow("6 place", INDEX, () -> x.at(3));
        dueThrow("6 place", INDEX, () -> x.at(-1));
        dueThrow("6 empty", INDEX, () -> new Housestyle().at(0));
    }

    private static void promise7() {
        Housestyle x = Checks.with("a b");
        due("7 three", x.length(), 3);
        x.take(1);
        due("7 two", x.length(), 2);
        due("7 most", Checks.with("/".repeat(160)).length(), 160);
    }

    private static void promise8() {
        Housestyle x = new Housestyle();
        String[] patterns = {"a", "abc*", "*", "#", "a-b-c", "*-#-ab*", "#-#", "abcdefghijklmnopqrst", "a*-*", "z*-#-*"};
        for (int i = 0; i < patterns.length; i++) {
            due("8 " + patterns[i], Checks.rule(x, patterns[i], "asm".charAt(i % 3), i % 2 == 0, 1 + i % 9), i);
            due("8 wiped", x.wipe(), 0);
        }
        String[] others = {"", "-", "a-", "-a", "a--b", "a-b-c-d", "a*b", "**", "*a", "##", "#a", "a#", "#*", "a b", "7",
            "a7", " ", "a-#*", "*-*-*-*"};
        for (String other : others) {
            Checks.type(x, other);
            dueThrow("8 no pattern " + other, FORM, () -> x.rule('a', true, 5));
            dueThrow("8 the condition first", ARGUMENT, () -> x.rule('b', true, 5));
            due("8 not wiped", x.wipe(), other.length());
        }
        Checks.type(x, "a");
        for (char condition : new char[] {'b', 'A', 0, ' ', 65535}) {
            dueThrow("8 condition", ARGUMENT, () -> x.rule(condition, true, 5));
        }
        for (int rank : new int[] {0, 10, -1, Integer.MAX_VALUE, Integer.MIN_VALUE}) {
            dueThrow("8 rank", ARGUMENT, () -> x.rule('a', true, rank));
        }
        due("8 not wiped", x.wipe(), 1);
        due("8 the eleventh", Checks.rule(x, "k"), 10);
        due("8 the twelfth", Checks.rule(x, "l"), 11);
        Checks.type(x, "m");
        dueThrow("8 full", STATE, () -> x.rule('a', false, 5));
        dueThrow("8 rank before full", ARGUMENT, () -> x.rule('a', false, 10));
        due("8 not wiped", x.wipe(), 1);
        dueThrow("8 pattern before full", FORM, () -> x.rule('a', false, 5));
    }

    private static void patternsAndSpans() {
        Housestyle x = Checks.with("cat cats 12 a cat. cat  cat");
        Checks.rule(x, "cat");
        due("8 a word", Checks.found(x, 0), "0@0+3 0@14+3 0@19+3 0@24+3");
        Checks.rule(x, "cat*", 'a', false, 6);
        due("8 a word that begins so, perhaps that alone", Checks.found(x, 0), "1@0+3 1@4+4 1@14+3 1@19+3 1@24+3");
        Checks.rule(x, "#", 'a', false, 7);
        Checks.rule(x, "*-cat*", 'a', false, 8);
        due("8 items behind one blank", Checks.found(x, 0), "3@0+8 2@9+2 3@12+5 1@19+3 1@24+3");
        Housestyle y = Checks.with("ab12 ab 12 34 ab\"ab ab\" a/ab ab");
        Checks.rule(y, "*-*", 'a', true, 5);
        Checks.rule(y, "#-#", 'a', false, 4);
        Checks.rule(y, "ab", 'a', false, 1);
        due("8 rows of letters and of digits", Checks.found(y, 0), "2@0+2 2@5+2 1@8+5 2@14+2 0@17+5 0@26+5");
        Housestyle z = Checks.with("ab.ab /ab\"ab\"ab ab");
        Checks.rule(z, "ab-ab");
        due("8 no other sign between", Checks.found(z, 0), "0@13+5");
    }

    private static void conditions() {
        Housestyle x = Checks.with("ab ab. ab ab./ .ab/7 ab \"ab.ab\" ab");
        Checks.rule(x, "ab", 's', true, 5);
        due("8 first of its sentence", Checks.found(x, 0), "0@0+2 0@7+2 0@16+2 0@28+2");
        Housestyle y = Checks.with("ab ab. ab ab./ .ab/7 ab \"ab.ab\" ab");
        Checks.rule(y, "ab", 'm', true, 5);
        due("8 not the first", Checks.found(y, 0), "0@3+2 0@10+2 0@21+2 0@25+2 0@32+2");
    }

    private static void quotes() {
        Housestyle x = Checks.with("a \"a a\" a\"a\"a\"a/a \"a\"\"a\" a");
        Checks.rule(x, "a", 'a', true, 5);
        due("8 looks into quotes", x.findings(0), 11);
        Checks.rule(x, "a", 'a', false, 6);
        due("8 left alone in quotes", Checks.found(x, 0),
                "1@0+1 0@3+1 0@5+1 1@8+1 0@10+1 1@12+1 0@14+1 1@16+1 0@19+1 0@22+1 1@25+1");
    }

    private static void promise9() {
        Housestyle x = Checks.with("the cat. my 7 cat cat/cat \"the\" cat");
        Checks.rule(x, "cat");
        Checks.rule(x, "dog");
        due("9 none", Checks.found(x, 0), "0@4+3 0@14+3 0@18+3 0@22+3 0@32+3");
        due("9 first", Checks.except(x, 0, "the"), 1);
        due("9 wiped", x.wipe(), 0);
        due("9 the token ahead", Checks.found(x, 0), "0@14+3 0@18+3 0@22+3");
        due("9 second", Checks.except(x, 0, "my"), 2);
        due("9 a number is ahead", Checks.found(x, 0), "0@14+3 0@18+3 0@22+3");
        due("9 third", Checks.except(x, 0, "cat"), 3);
        due("9 in the paragraph", Checks.found(x, 0), "0@14+3 0@22+3");
        Checks.type(x, "a");
        dueThrow("9 full", STATE, () -> x.except(0));
        dueThrow("9 rule", INDEX, () -> x.except(2));
        dueThrow("9 rule", INDEX, () -> x.except(-1));
        dueThrow("9 rule", INDEX, () -> x.except(Integer.MAX_VALUE));
        for (String other : new String[] {"", "a b", "7", "a7", "a*", "*", "#", "a-b", " a", "a "}) {
            Checks.type(x, other);
            dueThrow("9 no word " + other, FORM, () -> x.except(1));
            dueThrow("9 no word before full", FORM, () -> x.except(0));
            dueThrow("9 no rule before no word", INDEX, () -> x.except(2));
            due("9 not wiped", x.wipe(), other.length());
        }
        due("9 another rule", Checks.except(x, 1, "abcdefghijklmnopqrst"), 1);
    }

    private static void promise10() {
        Housestyle x = Checks.with("the cats sat");
        Checks.rule(x, "the-cat*");
        Checks.rule(x, "sat");
        due("10 first", Checks.suggest(x, 0, "a dog*"), 1);
        due("10 wiped", x.wipe(), 0);
        due("10 second", Checks.suggest(x, 0, "0 1 23456789 bcdef *"), 2);
        due("10 in their order", Checks.suggested(x, 0, 0, 0), "a dogs");
        due("10 in their order", Checks.suggested(x, 0, 0, 1), "0 1 23456789 bcdef s");
        Checks.type(x, "a");
        dueThrow("10 full", STATE, () -> x.suggest(0));
        dueThrow("10 rule", INDEX, () -> x.suggest(2));
        dueThrow("10 rule", INDEX, () -> x.suggest(-1));
        for (String other : new String[] {"", "**", "a*b*", "#", "a-b", "-"}) {
            Checks.type(x, other);
            dueThrow("10 no suggestion " + other, FORM, () -> x.suggest(1));
            dueThrow("10 before full", FORM, () -> x.suggest(0));
            dueThrow("10 no rule first", INDEX, () -> x.suggest(2));
            due("10 not wiped", x.wipe(), other.length());
        }
        due("10 only a star", Checks.suggest(x, 1, "*"), 1);
        due("10 only a blank", Checks.suggest(x, 1, " "), 2);
        due("10 nothing is taken", Checks.suggested(x, 0, 1, 0), "");
        due("10 a blank", Checks.suggested(x, 0, 1, 1), " ");
    }

    private static void promise11() {
        Housestyle x = Checks.with("two one two \"one\" /one. three two");
        for (String other : new String[] {"", "one", "one ", " one", "one  two", "one two a", "one one", "a 7", "a*b c", "a-b"}) {
            Checks.type(x, other);
            dueThrow("11 no pair " + other, FORM, () -> x.pair());
            due("11 not wiped", x.wipe(), other.length());
        }
        due("11 first", Checks.pair(x, "one two"), 0);
        due("11 wiped", x.wipe(), 0);
        due("11 the first use decides", Checks.found(x, 0), "12@4+3 12@19+3");
        due("11 the word that decides", Checks.suggested(x, 3, 0, 0), "two");
        due("11 second", Checks.pair(x, "three two"), 1);
        due("11 each pair by itself", Checks.found(x, 1), "12@4+3 12@19+3 13@24+5");
        due("11 third", Checks.pair(x, "two one"), 2);
        due("11 the lower rule", Checks.found(x, 0), "12@4+3 12@19+3 13@24+5");
        due("11 fourth", Checks.pair(x, "abcdefghi jklmnopqrs"), 3);
        Checks.type(x, "a b");
        dueThrow("11 full", STATE, () -> x.pair());
        due("11 not wiped", x.wipe(), 3);
        Checks.type(x, "a a");
        dueThrow("11 the form first", FORM, () -> x.pair());
        Housestyle y = Checks.with("\"one\" two one one two \"two one");
        Checks.pair(y, "one two");
        due("11 outside quotes", Checks.found(y, 0), "12@10+3 12@14+3");
        y.take(6);
        y.take(6);
        due("11 what decides is found anew", Checks.found(y, 0), "12@16+3");
    }

    private static void promise12() {
        Housestyle x = Checks.with("a b");
        Checks.rule(x, "a");
        Checks.rule(x, "b");
        due("12 used at first", x.use(1, 0, false), true);
        due("12 left out", x.use(1, 0, false), false);
        due("12 at that desk", Checks.found(x, 1), "1@2+1");
        due("12 at the others", Checks.found(x, 0) + ";" + Checks.found(x, 2), "0@0+1 1@2+1;0@0+1 1@2+1");
        due("12 used again", x.use(1, 0, true), false);
        due("12 used", x.use(1, 0, true), true);
        due("12 found again", Checks.found(x, 1), "0@0+1 1@2+1");
        String state = Checks.stateOf(x);
        for (int rule : new int[] {-1, 2, 12, 20, Integer.MAX_VALUE}) {
            dueThrow("12 rule", INDEX, () -> x.use(0, rule, false));
            dueThrow("12 the rule first", INDEX, () -> x.use(4, rule, false));
        }
        for (int desk : NO_DESKS) {
            dueThrow("12 desk", ARGUMENT, () -> x.use(desk, 0, false));
        }
        due("12 nothing changed", Checks.stateOf(x), state);
    }

    private static void promise13() {
        Housestyle x = Checks.with("a b");
        Checks.rule(x, "a-b", 'a', false, 5);
        Checks.rule(x, "b", 'a', false, 4);
        due("13 its own", x.rank(2, 1, 6), 4);
        due("13 that of the desk", x.rank(2, 1, 6), 6);
        due("13 another order", Checks.found(x, 2) + ";" + Checks.found(x, 1), "1@2+1;0@0+3");
        due("13 the rank of the finding", x.of(2, 0, 'k') + "," + x.of(1, 0, 'k'), "6,5");
        due("13 back to its own", x.rank(2, 1, 0), 6);
        due("13 its own", x.rank(2, 1, 9), 4);
        due("13 nine", x.rank(2, 1, 1), 9);
        String state = Checks.stateOf(x);
        for (int rule : new int[] {-1, 2, 12, 20}) {
            dueThrow("13 rule", INDEX, () -> x.rank(0, rule, 5));
            dueThrow("13 the rule first", INDEX, () -> x.rank(4, rule, 10));
        }
        for (int desk : NO_DESKS) {
            dueThrow("13 desk", ARGUMENT, () -> x.rank(desk, 0, 5));
        }
        for (int rank : new int[] {-1, 10, Integer.MAX_VALUE, Integer.MIN_VALUE}) {
            dueThrow("13 rank", ARGUMENT, () -> x.rank(0, 0, rank));
        }
        due("13 nothing changed", Checks.stateOf(x), state);
    }

    private static void promise14() {
        Housestyle x = Checks.with("0 007 19 20 \"3\" 12345678901234567890 4294967297 a5");
        due("14 none at first", x.findings(0), 0);
        due("14 before", x.limit(0, 20), 0);
        due("14 less than the limit", Checks.found(x, 0), "20@0+1 20@2+3 20@6+2 20@49+1");
        due("14 rank", x.of(0, 0, 'k'), 1);
        due("14 no suggestion", x.of(0, 0, 's'), 0);
        due("14 the other desks", x.findings(1), 0);
        due("14 before", x.limit(0, 7), 20);
        due("14 not what is like it", Checks.found(x, 0), "20@0+1 20@49+1");
        due("14 before", x.limit(0, 1), 7);
        due("14 nought is less than one", Checks.found(x, 0), "20@0+1");
        for (int desk : NO_DESKS) {
            dueThrow("14 desk", ARGUMENT, () -> x.limit(desk, 5));
        }
        for (int limit : new int[] {-1, 21, Integer.MAX_VALUE, Integer.MIN_VALUE}) {
            dueThrow("14 limit", ARGUMENT, () -> x.limit(0, limit));
        }
        due("14 nothing changed", x.limit(0, 0), 1);
        Checks.rule(x, "#", 'a', true, 1);
        x.limit(0, 20);
        due("14 the lower rule of like ones", Checks.found(x, 0),
                "0@0+1 0@2+3 0@6+2 0@9+2 0@13+1 0@16+20 0@37+10 0@49+1");
    }

    private static void promise15() {
        Housestyle x = Checks.with("a b c d");
        Checks.rule(x, "a-b", 'a', false, 3);
        Checks.rule(x, "b-c-d", 'a', false, 3);
        due("15 the earlier first sign", Checks.found(x, 0), "0@0+3");
        Checks.rule(x, "a-b-c", 'a', false, 3);
        due("15 then the longer span", Checks.found(x, 0), "2@0+5");
        Checks.rule(x, "*-*-*", 'a', false, 3);
        due("15 then the lower rule", Checks.found(x, 0), "2@0+5");
        Checks.rule(x, "d", 'a', false, 1);
        due("15 what is free", Checks.found(x, 0), "2@0+5 4@6+1");
        Checks.rule(x, "c", 'a', false, 9);
        due("15 the greater rank first", Checks.found(x, 0), "0@0+3 5@4+1 4@6+1");
        due("15 how many", x.findings(0), 3);
        for (int desk : NO_DESKS) {
            dueThrow("15 desk", ARGUMENT, () -> x.findings(desk));
        }
        Housestyle y = Checks.with("a a a a a");
        Checks.rule(y, "a-a");
        due("15 like spans", Checks.found(y, 0), "0@0+3 0@4+3");
        Checks.pair(y, "b a");
        Checks.write(y, 0, "b ", 0);
        due("15 the rank of pairs is five", Checks.found(y, 0), "0@2+3 0@6+3 12@10+1");
        y.rank(0, 0, 4);
        due("15 above four", Checks.found(y, 0), "12@2+1 12@4+1 12@6+1 12@8+1 12@10+1");
    }

    private static void promise16() {
        Housestyle x = new Housestyle();
        Checks.write(x, 0, "ab ", 3);
        Checks.write(x, 3, "cd", 2);
        Checks.rule(x, "ab-cd", 'a', false, 7);
        Checks.suggest(x, 0, "x");
        due("16 f", x.of(0, 0, 'f'), 0);
        due("16 l", x.of(0, 0, 'l'), 5);
        due("16 r", x.of(0, 0, 'r'), 0);
        due("16 k", x.of(0, 0, 'k'), 7);
        due("16 w", x.of(0, 0, 'w'), 3);
        due("16 s", x.of(0, 0, 's'), 1);
        Checks.suggest(x, 0, "y");
        due("16 s", x.of(0, 0, 's'), 2);
        x.put(0, ' ', 1);
        due("16 moved", x.of(0, 0, 'f') + "," + x.of(0, 0, 'w'), "1,3");
        Checks.pair(x, "qq cd");
        Checks.write(x, 0, "qq", 1);
        x.use(0, 0, false);
        due("16 a pair", x.of(0, 0, 'r') + "," + x.of(0, 0, 'k') + "," + x.of(0, 0, 's') + "," + x.of(0, 0, 'w'),
                "12,5,1,2");
        for (int desk : NO_DESKS) {
            dueThrow("16 desk", ARGUMENT, () -> x.of(desk, 0, 'f'));
            dueThrow("16 the desk first", ARGUMENT, () -> x.of(desk, 9, 'f'));
        }
        for (char what : new char[] {'a', 'F', 0, 'x', 'm', 65535}) {
            dueThrow("16 thing", ARGUMENT, () -> x.of(0, 0, what));
            dueThrow("16 the thing first", ARGUMENT, () -> x.of(0, 9, what));
        }
        for (int finding : new int[] {-1, 1, Integer.MAX_VALUE, Integer.MIN_VALUE}) {
            dueThrow("16 finding", ELEMENT, () -> x.of(0, finding, 'f'));
        }
    }

    private static void promise17And18() {
        Housestyle x = Checks.with("re ab cats one two 7");
        Checks.rule(x, "re*-*-cat*");
        Checks.suggest(x, 0, "x*y");
        Checks.suggest(x, 0, "none 1");
        due("17 nothing behind the letters", x.size(0, 0, 0), 2);
        due("18 nothing behind the letters", Checks.suggested(x, 0, 0, 0), "xy");
        due("18 no star", Checks.suggested(x, 0, 0, 1), "none 1");
        Checks.write(x, 2, "do", 0);
        due("18 the first star takes", Checks.suggested(x, 0, 0, 0), "xdoy");
        due("17 the first star takes", x.size(0, 0, 0), 4);
        dueThrow("18 place", ELEMENT, () -> x.sign(0, 0, 0, 4));
        dueThrow("18 place", ELEMENT, () -> x.sign(0, 0, 0, -1));
        Checks.rule(x, "one-*");
        Checks.suggest(x, 1, "*");
        due("18 any word", Checks.suggested(x, 0, 1, 0), "two");
        Checks.rule(x, "#");
        Checks.suggest(x, 2, "a*");
        due("18 a number is taken by no star", Checks.suggested(x, 0, 2, 0), "a");
        for (int desk : NO_DESKS) {
            dueThrow("17 desk", ARGUMENT, () -> x.size(desk, 9, 9));
            dueThrow("18 desk", ARGUMENT, () -> x.sign(desk, 9, 9, 9));
        }
        for (int other : new int[] {-1, 3, Integer.MAX_VALUE, Integer.MIN_VALUE}) {
            dueThrow("17 finding", ELEMENT, () -> x.size(0, other, 0));
            dueThrow("17 suggestion", ELEMENT, () -> x.size(0, 0, other));
            dueThrow("18 finding", ELEMENT, () -> x.sign(0, other, 0, 0));
            dueThrow("18 suggestion", ELEMENT, () -> x.sign(0, 0, other, 0));
        }
        dueThrow("17 one less", ELEMENT, () -> x.size(0, 1, 1));
        Housestyle y = Checks.with("a".repeat(160));
        Checks.rule(y, "*");
        Checks.suggest(y, 0, "1234567890 12345678*");
        due("17 longer than the text may be", y.size(0, 0, 0), 179);
        due("18 its last sign", y.sign(0, 0, 0, 178), 'a');
        dueThrow("18 behind it", ELEMENT, () -> y.sign(0, 0, 0, 179));
    }

    private static void promise19() {
        Housestyle x = Checks.with("my cats/one two two");
        Checks.rule(x, "cat*");
        Checks.suggest(x, 0, "dog* or 2");
        Checks.suggest(x, 0, "*");
        Checks.pair(x, "two one");
        x.check(0);
        due("19 apply", x.apply(0, 0, 0, 2), 24);
        due("19 text", Checks.textOf(x), "my dogs or 2/one two two");
        due("19 its paragraph changed", x.check(0), 1);
        x.limit(0, 20);
        due("19 its writer", x.of(0, 0, 'w'), 2);
        x.limit(0, 0);
        due("19 a pair", x.apply(0, 1, 0, 3), 24);
        due("19 text", Checks.textOf(x), "my dogs or 2/one two one");
        due("19 the writers", x.byWriter(0, 0) + "," + x.byWriter(0, 3), "1,0");
        String state = Checks.stateOf(x);
        for (int desk : NO_DESKS) {
            dueThrow("19 desk", ARGUMENT, () -> x.apply(desk, 9, 9, 0));
            dueThrow("19 writer", ARGUMENT, () -> x.apply(0, 0, 0, desk));
            dueThrow("19 writer first", ARGUMENT, () -> x.apply(0, 9, 0, desk));
        }
        for (int other : new int[] {-1, 1, Integer.MAX_VALUE}) {
            dueThrow("19 finding", ELEMENT, () -> x.apply(0, other, 0, 0));
            dueThrow("19 suggestion", ELEMENT, () -> x.apply(0, 0, other, 0));
        }
        due("19 nothing changed", Checks.stateOf(x), state);
        due("19 the same again", x.apply(0, 0, 0, 0), 24);
        due("19 none is left", x.findings(0), 0);
    }

    private static void applyAtTheLimit() {
        Housestyle x = Checks.with("ab " + ".".repeat(156));
        Checks.rule(x, "ab");
        Checks.suggest(x, 0, "abc");
        Checks.suggest(x, 0, "abcd");
        x.check(0);
        dueThrow("19 more than 160", STATE, () -> x.apply(0, 0, 1, 0));
        dueThrow("19 the writer first", ARGUMENT, () -> x.apply(0, 0, 1, 4));
        dueThrow("19 the suggestion first", ELEMENT, () -> x.apply(0, 0, 2, 0));
        due("19 nothing changed", x.length() + "," + x.check(0), "159,0");
        due("19 just 160", x.apply(0, 0, 0, 0), 160);
        Housestyle y = Checks.with("ab cd");
        Checks.rule(y, "ab-cd");
        Checks.suggest(y, 0, "*");
        y.check(1);
        due("19 nothing is put in", y.apply(0, 0, 0, 0), 0);
        due("19 the empty paragraph changed", y.check(1), 1);
    }

    private static void promise20() {
        Housestyle x = Checks.with("ab ab 7");
        Checks.rule(x, "ab");
        Checks.rule(x, "ab*", 'a', false, 4);
        x.limit(0, 9);
        due("20 first", x.ignore(0, 0), 1);
        due("20 another is taken", Checks.found(x, 0), "1@0+2 0@3+2 20@6+1");
        due("20 another desk", Checks.found(x, 1), "0@0+2 0@3+2");
        due("20 a number", x.ignore(0, 2), 2);
        due("20 number", Checks.found(x, 0), "1@0+2 0@3+2");
        due("20 another rule", x.ignore(0, 0), 3);
        due("20 found no more", Checks.found(x, 0), "0@3+2");
        for (int desk : NO_DESKS) {
            dueThrow("20 desk", ARGUMENT, () -> x.ignore(desk, 9));
        }
        for (int other : new int[] {-1, 1, Integer.MAX_VALUE}) {
            dueThrow("20 finding", ELEMENT, () -> x.ignore(0, other));
        }
        due("20 nothing changed", x.ignored(0), 3);
        Housestyle y = Checks.with("a ".repeat(22));
        Checks.rule(y, "a");
        for (int i = 0; i < 20; i++) {
            due("20 many", y.ignore(3, 0), i + 1);
        }
        dueThrow("20 full", STATE, () -> y.ignore(3, 0));
        dueThrow("20 the finding first", ELEMENT, () -> y.ignore(3, 2));
        dueThrow("20 the desk first", ARGUMENT, () -> y.ignore(4, 0));
        due("20 nothing changed", y.ignored(3) + "," + y.findings(3), "20,2");
        due("20 isSound", y.isSound(), true);
    }

    /** A text "xx ab cd xx", at whose desk 0 the span of "ab cd" is ignored. */
    private static Housestyle ignoring() {
        Housestyle x = Checks.with("xx ab cd xx");
        Checks.rule(x, "ab-cd");
        x.ignore(0, 0);
        return x;
    }

    private static void promise21() {
        Housestyle x = ignoring();
        due("21 one", x.ignored(0) + "," + x.ignored(1), "1,0");
        for (int desk : NO_DESKS) {
            dueThrow("21 desk", ARGUMENT, () -> x.ignored(desk));
        }
        for (int place = 0; place <= 11; place++) {
            Housestyle y = ignoring();
            y.put(place, ' ', 0);
            boolean isKept = place <= 3 || place >= 8;
            due("21 put " + place, y.ignored(0), isKept ? 1 : 0);
            due("21 not found, put " + place, y.findings(0), 0);
        }
        for (int place = 0; place < 11; place++) {
            Housestyle y = ignoring();
            y.take(place);
            boolean isKept = place < 3 || place > 7;
            due("21 take " + place, y.ignored(0), isKept ? 1 : 0);
            due("21 not found, take " + place, y.findings(0), 0);
        }
        Housestyle z = ignoring();
        z.put(3, 'x', 0);
        due("21 kept, though nothing is there", z.ignored(0) + "," + z.findings(0), "1,0");
        z.take(3);
        due("21 still ignored", z.ignored(0) + "," + z.findings(0), "1,0");
        z.take(4);
        z.put(4, 'b', 0);
        due("21 forgotten, so found again", z.ignored(0) + "," + z.findings(0), "0,1");
    }

    private static void ignoredAndApplied() {
        Housestyle x = Checks.with("aa1bb 2cc");
        Checks.rule(x, "#");
        Checks.rule(x, "bb");
        Checks.suggest(x, 1, "d");
        Checks.suggest(x, 1, "dddd");
        x.ignore(0, 2);
        x.ignore(0, 0);
        due("21 a longer one", x.apply(0, 0, 1, 0), 11);
        due("21 both go on", x.ignored(0) + "," + x.findings(0), "2,0");
        due("21 text", Checks.textOf(x), "aa1dddd 2cc");
        x.heed(0);
        due("21 their places", Checks.found(x, 0), "0@2+1 0@8+1");
        Housestyle y = Checks.with("ab12");
        Checks.rule(y, "ab");
        Checks.suggest(y, 0, "xyz");
        y.limit(0, 20);
        y.ignore(0, 1);
        y.apply(0, 0, 0, 1);
        due("21 just behind the span", y.ignored(0) + "," + y.findings(0), "1,0");
        Housestyle z = Checks.with("cats");
        Checks.rule(z, "cat*");
        z.ignore(0, 0);
        z.put(4, 's', 0);
        due("21 another span of the rule", z.ignored(0) + "," + Checks.found(z, 0), "1,0@0+5");
        due("21 both", z.ignore(0, 0) + "," + z.findings(0), "2,0");
        z.take(4);
        due("21 one is left", z.ignored(0) + "," + z.findings(0), "1,0");
    }

    private static void promise22() {
        Housestyle x = ignoring();
        due("22 another desk", x.heed(1), 0);
        due("22 still ignored", x.findings(0), 0);
        due("22 one", x.heed(0), 1);
        due("22 found again", x.findings(0) + "," + x.ignored(0), "1,0");
        due("22 none", x.heed(0), 0);
        x.ignore(0, 0);
        for (int desk : NO_DESKS) {
            dueThrow("22 desk", ARGUMENT, () -> x.heed(desk));
        }
        due("22 nothing changed", x.ignored(0), 1);
    }

    private static void promise23() {
        Housestyle x = Checks.with("ab12 c.d/\"e f7\"g\"h/i\"\"j\"k");
        due("23 outside", x.tokens(false), 7);
        due("23 in quotes", x.tokens(true), 5);
        due("23 most", Checks.with("a1".repeat(80)).tokens(false), 160);
        due("23 most in a quote", Checks.with("\"" + "a1".repeat(79)).tokens(true), 158);
        due("23 none", Checks.with(" ./\"").tokens(false), 0);
        x.put(0, '"', 0);
        due("23 after an edit", x.tokens(false) + "," + x.tokens(true), "3,9");
    }

    private static void promise24() {
        due("24 empty ones", Checks.with("//a/").paragraphs(), 4);
        due("24 most", Checks.with("/".repeat(160)).paragraphs(), 161);
        Housestyle x = Checks.with("a/b");
        x.take(1);
        due("24 one", x.paragraphs(), 1);
    }

    private static Housestyle checked(String text) {
        Housestyle x = Checks.with(text);
        Checks.rule(x, "ab");
        Checks.suggest(x, 0, "ab");
        for (int desk = 0; desk < 4; desk++) {
            x.check(desk);
        }
        return x;
    }

    private static String checks(Housestyle x) {
        return x.check(0) + "," + x.check(1) + "," + x.check(2) + "," + x.check(3);
    }

    private static void promise25() {
        Housestyle x = checked("ab/ab/ab");
        due("25 none", checks(x), "0,0,0,0");
        x.put(2, 'a', 0);
        x.take(2);
        x.put(6, ' ', 0);
        due("25 ahead of a '/' and in the last", x.check(1), 2);
        due("25 that desk only", checks(x), "2,0,2,2");
        x.put(3, 'c', 0);
        due("25 behind a '/'", checks(x), "1,1,1,1");
        x.put(1, '/', 0);
        due("25 both parts", checks(x), "2,2,2,2");
        x.put(0, '/', 0);
        due("25 an empty part", checks(x), "2,2,2,2");
        x.take(0);
        due("25 two become one", checks(x), "1,1,1,1");
        x.put(x.length(), '/', 0);
        due("25 an empty part at the end", checks(x), "2,2,2,2");
        x.take(x.length() - 1);
        due("25 become one", checks(x), "1,1,1,1");
        x.apply(0, 0, 0, 0);
        due("25 though it be as it was", checks(x), "1,1,1,1");
        x.ignore(0, 0);
        x.heed(0);
        Checks.type(x, "a");
        due("25 no change", checks(x), "0,0,0,0");
        for (int desk : NO_DESKS) {
            dueThrow("25 desk", ARGUMENT, () -> x.check(desk));
        }
        x.put(0, 'a', 0);
        x.put(x.length(), 'a', 0);
        x.put(0, '/', 0);
        x.put(x.length(), '/', 0);
        x.check(2);
        x.take(0);
        due("25 marks go with their paragraphs", checks(x), "3,3,1,3");
    }

    private static void changedByRules() {
        Housestyle x = checked("ab/ab/ab");
        Checks.rule(x, "zz");
        due("25 a rule", checks(x), "3,3,3,3");
        Checks.except(x, 1, "a");
        due("25 an exception", checks(x), "3,3,3,3");
        Checks.suggest(x, 1, "a");
        due("25 a suggestion", checks(x), "3,3,3,3");
        Checks.pair(x, "y z");
        due("25 a pair", checks(x), "3,3,3,3");
        x.use(1, 0, true);
        due("25 used as before", checks(x), "0,3,0,0");
        x.rank(2, 0, 5);
        due("25 a rank", checks(x), "0,0,3,0");
        x.limit(3, 0);
        due("25 a limit", checks(x), "0,0,0,3");
        Checks.type(x, "7");
        dueThrow("25 failed", FORM, () -> x.rule('a', true, 5));
        dueThrow("25 failed", FORM, () -> x.except(0));
        dueThrow("25 failed", FORM, () -> x.pair());
        dueThrow("25 failed", INDEX, () -> x.suggest(5));
        dueThrow("25 failed", INDEX, () -> x.use(0, 5, true));
        dueThrow("25 failed", ARGUMENT, () -> x.rank(0, 0, 10));
        dueThrow("25 failed", ARGUMENT, () -> x.limit(0, 21));
        dueThrow("25 failed", INDEX, () -> x.take(8));
        dueThrow("25 failed", ARGUMENT, () -> x.put(0, '-', 0));
        due("25 what throws changes nothing", checks(x), "0,0,0,0");
    }

    private static void promise26And27() {
        Housestyle x = new Housestyle();
        Checks.write(x, 0, "a ", 1);
        Checks.write(x, 2, "a 7 ", 2);
        Checks.write(x, 6, "b one two", 3);
        Checks.rule(x, "a");
        Checks.rule(x, "b");
        Checks.pair(x, "two one");
        x.limit(0, 10);
        due("26 by rule", x.byRule(0, 0) + "," + x.byRule(0, 1) + "," + x.byRule(0, 12) + "," + x.byRule(0, 20),
                "2,1,1,1");
        due("26 a rule that is not there", x.byRule(0, 2) + x.byRule(0, 11) + x.byRule(0, 13) + x.byRule(0, 19), 0);
        due("26 another desk", x.byRule(1, 20), 0);
        due("27 by writer", x.byWriter(0, 0) + "," + x.byWriter(0, 1) + "," + x.byWriter(0, 2) + ","
                + x.byWriter(0, 3), "0,1,2,2");
        for (int desk : NO_DESKS) {
            dueThrow("26 desk", ARGUMENT, () -> x.byRule(desk, 0));
            dueThrow("27 desk", ARGUMENT, () -> x.byWriter(desk, 0));
            dueThrow("27 writer", ARGUMENT, () -> x.byWriter(0, desk));
        }
        for (int rule : new int[] {-1, 21, Integer.MAX_VALUE, Integer.MIN_VALUE}) {
            dueThrow("26 rule", ARGUMENT, () -> x.byRule(0, rule));
        }
    }

    private static void promise28() {
        Housestyle x = Checks.with("a b");
        long text = ((7L * 31 + 'a') * 31 + ' ') * 31 + 'b';
        due("28 the text", x.checksum(), text);
        Checks.rule(x, "b");
        due("28 a finding", x.checksum(), (text * 31 + 2) * 31);
        Checks.rule(x, "a");
        due("28 findings", x.checksum(), (((text * 31) * 31 + 1) * 31 + 2) * 31);
        x.use(0, 1, false);
        x.use(1, 0, false);
        due("28 the desk 0", x.checksum(), (text * 31 + 2) * 31);
        long many = 7;
        for (int i = 0; i < 160; i++) {
            many = many * 31 + 'z';
        }
        due("28 it wraps around", Checks.with("z".repeat(160)).checksum(), many);
    }

    private static void promise29() {
        Housestyle x = Checks.with("ab cd e");
        due("29 none found", x.foundShare(0), 0.0f);
        Checks.rule(x, "ab-cd");
        due("29 share", x.foundShare(3), 5.0f / 7.0f);
        Checks.rule(x, "e");
        due("29 share", x.foundShare(0), 6.0f / 7.0f);
        x.use(0, 0, false);
        due("29 at a desk", x.foundShare(0), 1.0f / 7.0f);
        Housestyle none = new Housestyle();
        dueThrow("29 no signs", ARITHMETIC, () -> none.foundShare(0));
        for (int desk : NO_DESKS) {
            dueThrow("29 desk", ARGUMENT, () -> x.foundShare(desk));
            dueThrow("29 the desk first", ARGUMENT, () -> none.foundShare(desk));
        }
    }

    private static void promise30() {
        due("30 words", Checks.with("ab12345 \"c\"/defg").meanWord(), 7.0 / 3.0);
        due("30 one", Checks.with("a".repeat(160)).meanWord(), 160.0);
        dueThrow("30 none", ARITHMETIC, () -> new Housestyle().meanWord());
        dueThrow("30 no words", ARITHMETIC, () -> Checks.with("12 ./\" 3").meanWord());
        Housestyle x = Checks.with("ab");
        x.take(0);
        due("30 after an edit", x.meanWord(), 1.0);
    }

    private static void promise31() {
        Housestyle x = Checks.with("a b a \"a b\" 7 one two. a");
        Checks.rule(x, "a-b", 'a', true, 5);
        Checks.rule(x, "*", 'm', false, 7);
        Checks.pair(x, "one two");
        x.limit(2, 20);
        x.ignore(2, 0);
        due("31 isSound", x.isSound(), true);
        x.take(0);
        x.put(3, '/', 1);
        due("31 after edits", x.isSound(), true);
        due("31 the findings stand as they were", x.findings(2) > 0, true);
    }

    private static void fullBook() {
        Housestyle x = Checks.with("a1 ".repeat(53));
        for (int i = 0; i < 12; i++) {
            Checks.rule(x, "a*-#".substring(0, i % 2 == 0 ? 2 : 1), 'a', true, 1 + i % 9);
        }
        Checks.pair(x, "a b");
        x.limit(0, 20);
        due("15 as many as there are tokens", x.findings(0), 106);
        due("26 the greatest rank", x.byRule(0, 8), 53);
        due("26 the numbers", x.byRule(0, 20), 53);
        due("31 isSound", x.isSound(), true);
    }

    public static void main(String[] args) {
        promise1();
        promise2();
        promise3();
        promise4();
        promise5();
        promise6();
        promise7();
        promise8();
        patternsAndSpans();
        conditions();
        quotes();
        promise9();
        promise10();
        promise11();
        promise12();
        promise13();
        promise14();
        promise15();
        promise16();
        promise17And18();
        promise19();
        applyAtTheLimit();
        promise20();
        promise21();
        ignoredAndApplied();
        promise22();
        promise23();
        promise24();
        promise25();
        changedByRules();
        promise26And27();
        promise28();
        promise29();
        promise30();
        promise31();
        fullBook();
        Checks.end("HousestyleTest");
    }
}
