import java.util.ArrayList;
import java.util.NoSuchElementException;

/** A checker of house style for a newsroom; ../shared/DOC.md says what each method promises. */
public final class Housestyle {
    private static final int TEXT_MOST = 160;
    private static final int TYPED_MOST = 20;
    private static final int ITEMS_MOST = 3;
    private static final int RULES_MOST = 12;
    private static final int EXCEPTIONS_MOST = 3;
    private static final int SUGGESTIONS_MOST = 2;
    private static final int PAIRS_MOST = 4;
    private static final int DESKS = 4;
    private static final int ALL_DESKS = 15;
    private static final int WRITERS = 4;
    private static final int RANK_MOST = 9;
    private static final int LIMIT_MOST = 20;
    private static final int IGNORED_MOST = 20;
    private static final int FIRST_PAIR = 12;
    private static final int PAIR_RANK = 5;
    private static final int NUMBER_RULE = 20;
    private static final int NUMBER_RANK = 1;

    private final Row typed;
    private final Text text;
    private final Tokens tokens;
    private final Book book;
    private final ArrayList<Desk> desks;
    private final Findings found;
    private final Row proposal;
    private boolean isRead;
    private int solvedDesk;

    public Housestyle() {
        typed = new Row(TYPED_MOST);
        text = new Text();
        tokens = new Tokens(text.signs);
        book = new Book();
        desks = new ArrayList<Desk>();
        for (int i = 0; i < DESKS; i++) {
            desks.add(new Desk());
        }
        found = new Findings(book, tokens);
        // A suggestion may repeat a word as long as the text.
        proposal = new Row(TYPED_MOST + TEXT_MOST);
        isRead = false;
        solvedDesk = -1;
    }

    public int type(char sign) throws IllegalArgumentException, IllegalStateException {
        if (!isTypeable(sign)) {
            throw new IllegalArgumentException("no such sign");
        }
        if (typed.count() >= TYPED_MOST) {
            throw new IllegalStateException("there are 20");
        }
        typed.add(sign);
        return typed.count();
    }

    public int wipe() {
        int count = typed.count();
        typed.clear();
        return count;
    }

    public int put(int place, char sign, int writer)
            throws IndexOutOfBoundsException, IllegalArgumentException, IllegalStateException {
        if (place < 0 || place > text.signs.count()) {
            throw new IndexOutOfBoundsException("no such place");
        }
        if (!isTextSign(sign) || !isWriter(writer)) {
            throw new IllegalArgumentException("no such sign or writer");
        }
        if (text.signs.count() >= TEXT_MOST) {
            throw new IllegalStateException("the text has 160");
        }
        putIn(place, sign, writer);
        return text.signs.count();
    }

    public char take(int place) throws IndexOutOfBoundsException {
        needPlace(place);
        return takeOut(place);
    }

    public char at(int place) throws IndexOutOfBoundsException {
        needPlace(place);
        return (char) text.signs.get(place);
    }

    public int length() {
        return text.signs.count();
    }

    public int rule(char condition, boolean inQuotes, int rank)
            throws IllegalArgumentException, UnsupportedOperationException, IllegalStateException {
        boolean isCondition = condition == 'a' || condition == 's' || condition == 'm';
        if (!isCondition || rank < 1 || rank > RANK_MOST) {
            throw new IllegalArgumentException("no such condition or rank");
        }
        if (!Rule.isPattern(typed)) {
            throw new UnsupportedOperationException("no pattern");
        }
        if (book.rules.size() >= RULES_MOST) {
            throw new IllegalStateException("there are 12");
        }
        book.rules.add(new Rule(typed, condition, inQuotes, rank));
        noteTold();
        return book.rules.size() - 1;
    }

    public int except(int rule)
            throws IndexOutOfBoundsException, UnsupportedOperationException, IllegalStateException {
        Rule told = ruleAt(rule);
        if (!isWord(typed, 0, typed.count())) {
            throw new UnsupportedOperationException("no word");
        }
        if (told.exceptions.size() >= EXCEPTIONS_MOST) {
            throw new IllegalStateException("it has 3");
        }
        told.exceptions.add(typed.part(0, typed.count()));
        noteTold();
        return told.exceptions.size();
    }

    public int suggest(int rule)
            throws IndexOutOfBoundsException, UnsupportedOperationException, IllegalStateException {
        Rule told = ruleAt(rule);
        if (!Rule.isSuggestion(typed)) {
            throw new UnsupportedOperationException("no suggestion");
        }
        if (told.suggestions.size() >= SUGGESTIONS_MOST) {
            throw new IllegalStateException("it has 2");
        }
        told.suggestions.add(typed.part(0, typed.count()));
        noteTold();
        return told.suggestions.size();
    }

    public int pair() throws UnsupportedOperationException, IllegalStateException {
        int blank = typed.placeOf(' ');
        if (!isWord(typed, 0, blank) || !isWord(typed, blank + 1, typed.count())) {
            throw new UnsupportedOperationException("not two words");
        }
        Pair told = new Pair(typed.part(0, blank), typed.part(blank + 1, typed.count()));
        if (told.one.isLike(told.other)) {
            throw new UnsupportedOperationException("not two unlike words");
        }
        if (book.pairs.size() >= PAIRS_MOST) {
            throw new IllegalStateException("there are 4");
        }
        book.pairs.add(told);
        noteTold();
        return book.pairs.size() - 1;
    }

    public boolean use(int desk, int rule, boolean isUsed)
            throws IndexOutOfBoundsException, IllegalArgumentException {
        ruleAt(rule);
        Desk set = deskAt(desk);
        boolean wasUsed = set.uses(rule);
        set.setUse(rule, isUsed);
        noteSettings(desk);
        return wasUsed;
    }

    public int rank(int desk, int rule, int rank)
            throws IndexOutOfBoundsException, IllegalArgumentException {
        ruleAt(rule);
        Desk set = deskAt(desk);
        if (rank < 0 || rank > RANK_MOST) {
            throw new IllegalArgumentException("no such rank");
        }
        int before = book.rankAt(set, rule);
        set.ranks.set(rule, rank);
        noteSettings(desk);
        return before;
    }

    public int limit(int desk, int limit) throws IllegalArgumentException {
        Desk set = deskAt(desk);
        if (limit < 0 || limit > LIMIT_MOST) {
            throw new IllegalArgumentException("no such limit");
        }
        int before = set.numbersBelow;
        set.numbersBelow = limit;
        noteSettings(desk);
        return before;
    }

    public int findings(int desk) throws IllegalArgumentException {
        findFor(desk);
        return found.count();
    }

    public int of(int desk, int finding, char what) throws IllegalArgumentException, NoSuchElementException {
        Desk asked = findFor(desk);
        if (what != 'f' && what != 'l' && what != 'r' && what != 'k' && what != 'w' && what != 's') {
            throw new IllegalArgumentException("no such thing");
        }
        needFinding(finding);
        int rule = found.ruleOf(finding);
        if (what == 'f') {
            return found.fromOf(finding);
        }
        if (what == 'l') {
            return found.lengthOf(finding);
        }
        if (what == 'r') {
            return rule;
        }
        if (what == 'k') {
            return book.rankAt(asked, rule);
        }
        if (what == 'w') {
            return text.writers.get(found.fromOf(finding));
        }
        return book.suggestionsOf(rule);
    }

    public int size(int desk, int finding, int suggestion) throws IllegalArgumentException, NoSuchElementException {
        findFor(desk);
        propose(finding, suggestion);
        return proposal.count();
    }

    public char sign(int desk, int finding, int suggestion, int place)
            throws IllegalArgumentException, NoSuchElementException {
        findFor(desk);
        propose(finding, suggestion);
        if (place < 0 || place >= proposal.count()) {
            throw new NoSuchElementException("no such place");
        }
        return (char) proposal.get(place);
    }

    public int apply(int desk, int finding, int suggestion, int writer)
            throws IllegalArgumentException, NoSuchElementException, IllegalStateException {
        findFor(desk);
        if (!isWriter(writer)) {
            throw new IllegalArgumentException("no such writer");
        }
        propose(finding, suggestion);
        int from = found.fromOf(finding);
        int length = found.lengthOf(finding);
        if (text.signs.count() - length + proposal.count() > TEXT_MOST) {
            throw new IllegalStateException("the text would have more than 160");
        }
        for (int i = 0; i < length; i++) {
            takeOut(from);
        }
        for (int i = 0; i < proposal.count(); i++) {
            putIn(from + i, (char) proposal.get(i), writer);
        }
        return text.signs.count();
    }

    public int ignore(int desk, int finding)
            throws IllegalArgumentException, NoSuchElementException, IllegalStateException {
        Desk asked = findFor(desk);
        needFinding(finding);
        if (asked.ignoredCount() >= IGNORED_MOST) {
            throw new IllegalStateException("20 are");
        }
        asked.addIgnored(found.ruleOf(finding), found.fromOf(finding), found.lengthOf(finding));
        solvedDesk = -1;
        return asked.ignoredCount();
    }

    public int ignored(int desk) throws IllegalArgumentException {
        return deskAt(desk).ignoredCount();
    }

    public int heed(int desk) throws IllegalArgumentException {
        Desk asked = deskAt(desk);
        int count = asked.ignoredCount();
        asked.clearIgnored();
        solvedDesk = -1;
        return count;
    }

    public int tokens(boolean inQuotes) {
        tokens.read();
        int count = 0;
        for (int token = 0; token < tokens.count(); token++) {
            if (tokens.isQuoted(token) == inQuotes) {
                count++;
            }
        }
        return count;
    }

    public int paragraphs() {
        return text.changed.count();
    }

    public int check(int desk) throws IllegalArgumentException {
        deskAt(desk);
        return text.clearChanged(1 << desk);
    }

    public int byRule(int desk, int rule) throws IllegalArgumentException {
        findFor(desk);
        if (rule < 0 || rule > NUMBER_RULE) {
            throw new IllegalArgumentException("no such rule");
        }
        int count = 0;
        for (int i = 0; i < found.count(); i++) {
            if (found.ruleOf(i) == rule) {
                count++;
            }
        }
        return count;
    }

    public int byWriter(int desk, int writer) throws IllegalArgumentException {
        findFor(desk);
        if (!isWriter(writer)) {
            throw new IllegalArgumentException("no such writer");
        }
        int count = 0;
        for (int i = 0; i < found.count(); i++) {
            if (text.writers.get(found.fromOf(i)) == writer) {
                count++;
            }
        }
        return count;
    }

    public long checksum() {
        findFor(0);
        long sum = 7;
        for (int i = 0; i < text.signs.count(); i++) {
            sum = 31 * sum + text.signs.get(i);
        }
        for (int i = 0; i < found.count(); i++) {
            sum = 31 * sum + found.fromOf(i);
            sum = 31 * sum + found.ruleOf(i);
        }
        return sum;
    }

    public float foundShare(int desk) throws IllegalArgumentException, ArithmeticException {
        findFor(desk);
        int all = text.signs.count();
        if (all == 0) {
            throw new ArithmeticException("there are none");
        }
        int inSpans = 0;
        for (int i = 0; i < found.count(); i++) {
            inSpans += found.lengthOf(i);
        }
        return (float) inSpans / (float) all;
    }

    public double meanWord() throws ArithmeticException {
        tokens.read();
        int sum = 0;
        int words = 0;
        for (int token = 0; token < tokens.count(); token++) {
            if (tokens.isWord(token)) {
                sum += tokens.lengthOf(token);
                words++;
            }
        }
        if (words == 0) {
            throw new ArithmeticException("there are none");
        }
        return (double) sum / (double) words;
    }

    public boolean isSound() {
        boolean isSound = true;
        for (int desk = 0; desk < desks.size(); desk++) {
            Desk looked = findFor(desk);
            isSound = isSound && found.shareNoSign() && found.accountForAll(looked)
                    && looked.ignoredLieWithin(text.signs.count());
        }
        return isSound;
    }

    private static boolean isLetter(int sign) {
        return sign >= 'a' && sign <= 'z';
    }

    private static boolean isDigit(int sign) {
        return sign >= '0' && sign <= '9';
    }

    private static boolean isTypeable(char sign) {
        return isLetter(sign) || isDigit(sign) || sign == ' ' || sign == '*' || sign == '#' || sign == '-';
    }

    private static boolean isTextSign(char sign) {
        return isLetter(sign) || isDigit(sign) || sign == ' ' || sign == '.' || sign == '"' || sign == '/';
    }

    private static boolean isWriter(int writer) {
        return writer >= 0 && writer < WRITERS;
    }

    private static boolean isWord(Row signs, int from, int end) {
        boolean isWord = from < end;
        for (int i = from; i < end; i++) {
            isWord = isWord && isLetter(signs.get(i));
        }
        return isWord;
    }

    private void needPlace(int place) throws IndexOutOfBoundsException {
        if (place < 0 || place >= text.signs.count()) {
            throw new IndexOutOfBoundsException("no such place");
        }
    }

    private Rule ruleAt(int rule) throws IndexOutOfBoundsException {
        if (rule < 0 || rule >= book.rules.size()) {
            throw new IndexOutOfBoundsException("no such rule");
        }
        return book.rules.get(rule);
    }

    private Desk deskAt(int desk) throws IllegalArgumentException {
        if (desk < 0 || desk >= desks.size()) {
            throw new IllegalArgumentException("no such desk");
        }
        return desks.get(desk);
    }

    private void needFinding(int finding) throws NoSuchElementException {
        if (finding < 0 || finding >= found.count()) {
            throw new NoSuchElementException("no such finding");
        }
    }

    /** Writes a suggestion of a finding into the proposal, as it would be put in. */
    private void propose(int finding, int suggestion) throws NoSuchElementException {
        needFinding(finding);
        int rule = found.ruleOf(finding);
        if (suggestion < 0 || suggestion >= book.suggestionsOf(rule)) {
            throw new NoSuchElementException("no such suggestion");
        }
        proposal.clear();
        book.writeSuggestion(tokens, found.tokenOf(finding), rule, suggestion, proposal);
    }

    /** Brings the findings up to date for a desk, and returns it. */
    private Desk findFor(int desk) throws IllegalArgumentException {
        Desk asked = deskAt(desk);
        if (!isRead) {
            tokens.read();
            book.look(tokens);
            isRead = true;
        }
        if (solvedDesk != desk) {
            found.solve(asked);
            solvedDesk = desk;
        }
        return asked;
    }

    private void putIn(int place, char sign, int writer) {
        text.insert(place, sign, writer);
        for (int i = 0; i < desks.size(); i++) {
            desks.get(i).followPut(place);
        }
        noteStale();
    }

    private char takeOut(int place) {
        char sign = text.remove(place);
        for (int i = 0; i < desks.size(); i++) {
            desks.get(i).followTake(place);
        }
        noteStale();
        return sign;
    }

    private void noteStale() {
        isRead = false;
        solvedDesk = -1;
    }

    /** What all desks go by was told out of the typed signs. */
    private void noteTold() {
        typed.clear();
        text.markAll(ALL_DESKS);
        noteStale();
    }

    private void noteSettings(int desk) {
        text.markAll(1 << desk);
        solvedDesk = -1;
    }

    /** A row of numbers with a bound; a place that it has not answers 0 and takes nothing. */
    private static final class Row {
        private final int[] cells;
        private int count;

        Row(int most) {
            cells = new int[most > 0 ? most : 0];
            count = 0;
        }

        int count() {
            return count;
        }

        int get(int place) {
            return place >= 0 && place < count && place < cells.length ? cells[place] : 0;
        }

        void set(int place, int value) {
            if (place >= 0 && place < count && place < cells.length) {
                cells[place] = value;
            }
        }

        void add(int value) {
            if (count >= 0 && count < cells.length) {
                cells[count] = value;
                count++;
            }
        }

        void insert(int place, int value) {
            if (place < 0 || place > count || count >= cells.length) {
                return;
            }
            for (int i = count; i > place; i--) {
                cells[i] = cells[i - 1];
            }
            cells[place] = value;
            count++;
        }

        int remove(int place) {
            if (place < 0 || place >= count || count > cells.length) {
                return 0;
            }
            int value = cells[place];
            for (int i = place + 1; i < count; i++) {
                cells[i - 1] = cells[i];
            }
            count--;
            return value;
        }

        void clear() {
            count = 0;
        }

        /** Holds as many zeros, and nothing else. */
        void reset(int zeros) {
            count = 0;
            for (int i = 0; i < zeros && i < cells.length; i++) {
                cells[i] = 0;
                count++;
            }
        }

        /** The first place of a value, or -1. */
        int placeOf(int value) {
            for (int i = 0; i < count; i++) {
                if (get(i) == value) {
                    return i;
                }
            }
            return -1;
        }

        Row part(int from, int end) {
            Row part = new Row(end - from);
            for (int i = from; i < end; i++) {
                part.add(get(i));
            }
            return part;
        }

        boolean isLike(Row other) {
            if (count != other.count) {
                return false;
            }
            for (int i = 0; i < count; i++) {
                if (get(i) != other.get(i)) {
                    return false;
                }
            }
            return true;
        }
    }

    /** The signs with their writers, and for each paragraph a bit for each desk at which it changed. */
    private static final class Text {
        private final Row signs;
        private final Row writers;
        private final Row changed;

        Text() {
            signs = new Row(TEXT_MOST);
            writers = new Row(TEXT_MOST);
            changed = new Row(TEXT_MOST + 1);
            changed.add(ALL_DESKS);
        }

        int paragraphAt(int place) {
            int paragraph = 0;
            for (int i = 0; i < place && i < signs.count(); i++) {
                if (signs.get(i) == '/') {
                    paragraph++;
                }
            }
            return paragraph;
        }

        void insert(int place, char sign, int writer) {
            int paragraph = paragraphAt(place);
            signs.insert(place, sign);
            writers.insert(place, writer);
            changed.set(paragraph, ALL_DESKS);
            if (sign == '/') {
                changed.insert(paragraph + 1, ALL_DESKS);
            }
        }

        char remove(int place) {
            int paragraph = paragraphAt(place);
            char sign = (char) signs.remove(place);
            writers.remove(place);
            changed.set(paragraph, ALL_DESKS);
            if (sign == '/') {
                changed.remove(paragraph + 1);
            }
            return sign;
        }

        void markAll(int desks) {
            for (int i = 0; i < changed.count(); i++) {
                changed.set(i, changed.get(i) | desks);
            }
        }

        /** Clears a desk's marks and returns how many there were. */
        int clearChanged(int desk) {
            int count = 0;
            for (int i = 0; i < changed.count(); i++) {
                int marks = changed.get(i);
                if ((marks & desk) != 0) {
                    count++;
                    changed.set(i, marks & ~desk);
                }
            }
            return count;
        }
    }

    /** The words and numbers of the text, as they were read last. */
    private static final class Tokens {
        private static final int NO_TOKEN = 0;
        private static final int WORD = 1;
        private static final int NUMBER = 2;
        // Any value above the greatest limit serves for all of them, however many digits a number has.
        private static final int VALUE_MOST = 100;

        private final Row signs;
        private final Row froms;
        private final Row ends;
        private final Row kinds;
        private final Row values;
        private final Row quoted;
        private final Row first;
        private final Row ahead;
        private boolean isInQuote;
        private boolean isAtBegin;
        private int last;

        Tokens(Row signs) {
            this.signs = signs;
            froms = new Row(TEXT_MOST);
            ends = new Row(TEXT_MOST);
            kinds = new Row(TEXT_MOST);
            values = new Row(TEXT_MOST);
            quoted = new Row(TEXT_MOST);
            first = new Row(TEXT_MOST);
            ahead = new Row(TEXT_MOST);
            isInQuote = false;
            isAtBegin = true;
            last = -1;
        }

        void read() {
            clear();
            beginParagraph();
            int before = NO_TOKEN;
            for (int i = 0; i < signs.count(); i++) {
                int sign = signs.get(i);
                int kind = kindOf(sign);
                if (kind == NO_TOKEN) {
                    passSign(sign);
                } else {
                    if (kind != before) {
                        beginToken(i, kind);
                    }
                    lengthen(sign);
                }
                before = kind;
            }
        }

        private void clear() {
            froms.clear();
            ends.clear();
            kinds.clear();
            values.clear();
            quoted.clear();
            first.clear();
            ahead.clear();
        }

        private static int kindOf(int sign) {
            if (isLetter(sign)) {
                return WORD;
            }
            return isDigit(sign) ? NUMBER : NO_TOKEN;
        }

        private void beginParagraph() {
            isInQuote = false;
            isAtBegin = true;
            last = -1;
        }

        private void passSign(int sign) {
            if (sign == '/') {
                beginParagraph();
            } else if (sign == '.') {
                isAtBegin = true;
            } else if (sign == '"') {
                isInQuote = !isInQuote;
            }
        }

        private void beginToken(int from, int kind) {
            froms.add(from);
            ends.add(from);
            kinds.add(kind);
            values.add(0);
            quoted.add(isInQuote ? 1 : 0);
            first.add(isAtBegin ? 1 : 0);
            ahead.add(last);
            isAtBegin = false;
            last = count() - 1;
        }

        private void lengthen(int sign) {
            ends.set(last, ends.get(last) + 1);
            int value = values.get(last) * 10 + (sign - '0');
            values.set(last, isDigit(sign) ? Math.min(value, VALUE_MOST) : 0);
        }

        int count() {
            return froms.count();
        }

        int fromOf(int token) {
            return froms.get(token);
        }

        int endOf(int token) {
            return ends.get(token);
        }

        int lengthOf(int token) {
            return ends.get(token) - froms.get(token);
        }

        boolean isWord(int token) {
            return kinds.get(token) == WORD;
        }

        boolean isNumber(int token) {
            return kinds.get(token) == NUMBER;
        }

        /** A number's value; those that are greater than every limit count alike. */
        int valueOf(int token) {
            return values.get(token);
        }

        boolean isQuoted(int token) {
            return quoted.get(token) == 1;
        }

        boolean isFirst(int token) {
            return first.get(token) == 1;
        }

        /** The token ahead in the same paragraph, or -1. */
        int aheadOf(int token) {
            return ahead.get(token);
        }

        boolean begins(int token, Row letters) {
            int from = froms.get(token);
            if (ends.get(token) - from < letters.count()) {
                return false;
            }
            for (int i = 0; i < letters.count(); i++) {
                if (signs.get(from + i) != letters.get(i)) {
                    return false;
                }
            }
            return true;
        }

        boolean isThe(Row word, int token) {
            return token >= 0 && token < count() && lengthOf(token) == word.count() && begins(token, word);
        }

        /** Whether a token has one behind it with just one blank between. */
        boolean goesOn(int token) {
            int end = ends.get(token);
            return token + 1 < count() && signs.get(end) == ' ' && froms.get(token + 1) == end + 1;
        }

        /** Writes the signs of a token behind its first ones. */
        void write(int token, int skipped, Row into) {
            for (int i = froms.get(token) + skipped; i < ends.get(token); i++) {
                into.add(signs.get(i));
            }
        }
    }

    /** One item of a pattern. */
    private static final class Item {
        private final boolean isNumber;
        private final boolean hasStar;
        private final Row letters;

        Item(Row typed, int from, int end) {
            isNumber = typed.get(end - 1) == '#';
            hasStar = typed.get(end - 1) == '*';
            letters = typed.part(from, isNumber || hasStar ? end - 1 : end);
        }

        static boolean isItem(Row typed, int from, int end) {
            int last = typed.get(end - 1);
            if (end - from == 1 && last == '#') {
                return true;
            }
            if (end > from && last == '*') {
                return end - from == 1 || isWord(typed, from, end - 1);
            }
            return isWord(typed, from, end);
        }

        boolean fits(Tokens tokens, int token) {
            if (isNumber) {
                return tokens.isNumber(token);
            }
            return tokens.isWord(token) && tokens.begins(token, letters)
                    && (hasStar || tokens.lengthOf(token) == letters.count());
        }
    }

    /** A rule with its pattern, exceptions and suggestions. */
    private static final class Rule {
        private final ArrayList<Item> items;
        private final char condition;
        private final boolean inQuotes;
        private final int ownRank;
        private final ArrayList<Row> exceptions;
        private final ArrayList<Row> suggestions;

        Rule(Row typed, char condition, boolean inQuotes, int ownRank) {
            items = new ArrayList<Item>();
            int from = 0;
            for (int i = 0; i <= typed.count(); i++) {
                if (i == typed.count() || typed.get(i) == '-') {
                    items.add(new Item(typed, from, i));
                    from = i + 1;
                }
            }
            this.condition = condition;
            this.inQuotes = inQuotes;
            this.ownRank = ownRank;
            exceptions = new ArrayList<Row>();
            suggestions = new ArrayList<Row>();
        }

        static boolean isPattern(Row typed) {
            int items = 0;
            int from = 0;
            for (int i = 0; i <= typed.count(); i++) {
                if (i == typed.count() || typed.get(i) == '-') {
                    if (!Item.isItem(typed, from, i)) {
                        return false;
                    }
                    items++;
                    from = i + 1;
                }
            }
            return items <= ITEMS_MOST;
        }

        static boolean isSuggestion(Row typed) {
            int stars = 0;
            for (int i = 0; i < typed.count(); i++) {
                int sign = typed.get(i);
                if (sign == '*') {
                    stars++;
                } else if (!isLetter(sign) && !isDigit(sign) && sign != ' ') {
                    return false;
                }
            }
            return typed.count() > 0 && stars <= 1;
        }

        /** Whether the rule is found at a token, at a desk that uses it. */
        boolean isFoundAt(Tokens tokens, int token) {
            // No '"' stands between the tokens of a span: all of them are in a quote, or none is.
            if (tokens.isQuoted(token) && !inQuotes) {
                return false;
            }
            if (condition != 'a' && tokens.isFirst(token) != (condition == 's')) {
                return false;
            }
            for (int i = 0; i < items.size(); i++) {
                if (i > 0 && !tokens.goesOn(token + i - 1)) {
                    return false;
                }
                if (!items.get(i).fits(tokens, token + i)) {
                    return false;
                }
            }
            return !isExcepted(tokens, token);
        }

        private boolean isExcepted(Tokens tokens, int token) {
            int ahead = tokens.aheadOf(token);
            for (int i = 0; i < exceptions.size(); i++) {
                if (tokens.isThe(exceptions.get(i), ahead)) {
                    return true;
                }
            }
            return false;
        }

        void writeSuggestion(Tokens tokens, int token, int suggestion, Row into) {
            if (suggestion < 0 || suggestion >= suggestions.size()) {
                return;
            }
            Row signs = suggestions.get(suggestion);
            for (int i = 0; i < signs.count(); i++) {
                if (signs.get(i) == '*') {
                    writeTaken(tokens, token, into);
                } else {
                    into.add(signs.get(i));
                }
            }
        }

        /** Writes what the first '*' of the pattern takes. */
        private void writeTaken(Tokens tokens, int token, Row into) {
            for (int i = 0; i < items.size(); i++) {
                Item item = items.get(i);
                if (item.hasStar) {
                    tokens.write(token + i, item.letters.count(), into);
                    return;
                }
            }
        }
    }

    /** Two words of which the first use decides. */
    private static final class Pair {
        private final Row one;
        private final Row other;

        Pair(Row one, Row other) {
            this.one = one;
            this.other = other;
        }

        /** The word that decides, where the other one is found. */
        Row unlike(Tokens tokens, int token) {
            return tokens.isThe(one, token) ? other : one;
        }
    }

    /** All rules and pairs, and for each token the bits of those that are found at it by themselves. */
    private static final class Book {
        private final ArrayList<Rule> rules;
        private final ArrayList<Pair> pairs;
        private final Row hits;

        Book() {
            rules = new ArrayList<Rule>();
            pairs = new ArrayList<Pair>();
            hits = new Row(TEXT_MOST);
        }

        void look(Tokens tokens) {
            hits.reset(tokens.count());
            for (int i = 0; i < rules.size(); i++) {
                Rule rule = rules.get(i);
                for (int token = 0; token < tokens.count(); token++) {
                    if (rule.isFoundAt(tokens, token)) {
                        addHit(token, i);
                    }
                }
            }
            for (int i = 0; i < pairs.size(); i++) {
                lookForPair(tokens, FIRST_PAIR + i, pairs.get(i));
            }
        }

        private void addHit(int token, int number) {
            hits.set(token, hits.get(token) | (1 << number));
        }

        private void lookForPair(Tokens tokens, int number, Pair pair) {
            Row found = null;
            for (int token = 0; token < tokens.count(); token++) {
                if (tokens.isQuoted(token)) {
                    continue;
                }
                if (found != null) {
                    if (tokens.isThe(found, token)) {
                        addHit(token, number);
                    }
                } else if (tokens.isThe(pair.one, token)) {
                    found = pair.other;
                } else if (tokens.isThe(pair.other, token)) {
                    found = pair.one;
                }
            }
        }

        /** The bits of what is found at a token for a desk. */
        int foundAt(Tokens tokens, Desk desk, int token) {
            int bits = hits.get(token) & ~desk.leftOut;
            if (tokens.isNumber(token) && !tokens.isQuoted(token) && tokens.valueOf(token) < desk.numbersBelow) {
                bits |= 1 << NUMBER_RULE;
            }
            return bits;
        }

        int itemsOf(int number) {
            return number >= 0 && number < rules.size() ? rules.get(number).items.size() : 1;
        }

        int rankAt(Desk desk, int number) {
            if (number >= 0 && number < rules.size()) {
                int set = desk.ranks.get(number);
                return set == 0 ? rules.get(number).ownRank : set;
            }
            return number == NUMBER_RULE ? NUMBER_RANK : PAIR_RANK;
        }

        /** The bits of what has a rank at a desk. */
        int ofRank(Desk desk, int rank) {
            int bits = 0;
            for (int number = 0; number <= NUMBER_RULE; number++) {
                if (rankAt(desk, number) == rank) {
                    bits |= 1 << number;
                }
            }
            return bits;
        }

        int suggestionsOf(int number) {
            if (number >= 0 && number < rules.size()) {
                return rules.get(number).suggestions.size();
            }
            return number >= FIRST_PAIR && number - FIRST_PAIR < pairs.size() ? 1 : 0;
        }

        void writeSuggestion(Tokens tokens, int token, int number, int suggestion, Row into) {
            if (number >= 0 && number < rules.size()) {
                rules.get(number).writeSuggestion(tokens, token, suggestion, into);
            } else if (number >= FIRST_PAIR && number - FIRST_PAIR < pairs.size()) {
                Row word = pairs.get(number - FIRST_PAIR).unlike(tokens, token);
                for (int i = 0; i < word.count(); i++) {
                    into.add(word.get(i));
                }
            }
        }
    }

    /** The settings of a desk, and what is ignored at it. */
    private static final class Desk {
        private final Row ranks;
        private final Row ignoredRules;
        private final Row ignoredFroms;
        private final Row ignoredLengths;
        private int numbersBelow;
        // The bits of the rules that are not used.
        private int leftOut;

        Desk() {
            ranks = new Row(RULES_MOST);
            ranks.reset(RULES_MOST);
            ignoredRules = new Row(IGNORED_MOST);
            ignoredFroms = new Row(IGNORED_MOST);
            ignoredLengths = new Row(IGNORED_MOST);
            numbersBelow = 0;
            leftOut = 0;
        }

        boolean uses(int rule) {
            return (leftOut & (1 << rule)) == 0;
        }

        void setUse(int rule, boolean isUsed) {
            leftOut = isUsed ? leftOut & ~(1 << rule) : leftOut | (1 << rule);
        }

        int ignoredCount() {
            return ignoredRules.count();
        }

        void addIgnored(int rule, int from, int length) {
            ignoredRules.add(rule);
            ignoredFroms.add(from);
            ignoredLengths.add(length);
        }

        void clearIgnored() {
            ignoredRules.clear();
            ignoredFroms.clear();
            ignoredLengths.clear();
        }

        boolean ignores(int rule, int from, int length) {
            for (int i = 0; i < ignoredCount(); i++) {
                if (ignoredRules.get(i) == rule && ignoredFroms.get(i) == from && ignoredLengths.get(i) == length) {
                    return true;
                }
            }
            return false;
        }

        // Both go from the last one down, for one that is forgotten moves those behind it.
        void followPut(int place) {
            for (int i = ignoredCount() - 1; i >= 0; i--) {
                int from = ignoredFroms.get(i);
                if (place <= from) {
                    ignoredFroms.set(i, from + 1);
                } else if (place < from + ignoredLengths.get(i)) {
                    forget(i);
                }
            }
        }

        void followTake(int place) {
            for (int i = ignoredCount() - 1; i >= 0; i--) {
                int from = ignoredFroms.get(i);
                if (place < from) {
                    ignoredFroms.set(i, from - 1);
                } else if (place < from + ignoredLengths.get(i)) {
                    forget(i);
                }
            }
        }

        private void forget(int i) {
            ignoredRules.remove(i);
            ignoredFroms.remove(i);
            ignoredLengths.remove(i);
        }

        boolean ignoredLieWithin(int end) {
            for (int i = 0; i < ignoredCount(); i++) {
                int from = ignoredFroms.get(i);
                if (from < 0 || from + ignoredLengths.get(i) > end) {
                    return false;
                }
            }
            return true;
        }
    }

    /**
     * What is taken for one desk. A span begins and ends with tokens and has all between them, so that two spans
     * share a sign just if they share a token, and clashes are solved by tokens.
     */
    private static final class Findings {
        private final Book book;
        private final Tokens tokens;
        private final Row covered;
        private final Row takenAt;
        private final Row itsTokens;
        private final Row itsRules;

        Findings(Book book, Tokens tokens) {
            this.book = book;
            this.tokens = tokens;
            covered = new Row(TEXT_MOST);
            // One more than the rule that is taken at a token, or 0.
            takenAt = new Row(TEXT_MOST);
            itsTokens = new Row(TEXT_MOST);
            itsRules = new Row(TEXT_MOST);
        }

        int count() {
            return itsTokens.count();
        }

        int tokenOf(int finding) {
            return itsTokens.get(finding);
        }

        int ruleOf(int finding) {
            return itsRules.get(finding);
        }

        int fromOf(int finding) {
            return tokens.fromOf(itsTokens.get(finding));
        }

        int lengthOf(int finding) {
            return lengthAt(itsRules.get(finding), itsTokens.get(finding));
        }

        private int lengthAt(int rule, int token) {
            return tokens.endOf(token + book.itemsOf(rule) - 1) - tokens.fromOf(token);
        }

        void solve(Desk desk) {
            covered.reset(tokens.count());
            takenAt.reset(tokens.count());
            for (int rank = RANK_MOST; rank >= 1; rank--) {
                int ofRank = book.ofRank(desk, rank);
                for (int token = 0; token < tokens.count() && ofRank != 0; token++) {
                    takeBest(desk, token, book.foundAt(tokens, desk, token) & ofRank);
                }
            }
            itsTokens.clear();
            itsRules.clear();
            for (int token = 0; token < tokens.count(); token++) {
                if (takenAt.get(token) != 0) {
                    itsTokens.add(token);
                    itsRules.add(takenAt.get(token) - 1);
                }
            }
        }

        /** Takes the best one of those with like ranks and the first sign of a token, if any can be taken. */
        private void takeBest(Desk desk, int token, int rules) {
            if (rules == 0) {
                return;
            }
            // From the same first sign, more items are a longer span.
            for (int items = ITEMS_MOST; items >= 1; items--) {
                for (int rule = 0; rule <= NUMBER_RULE; rule++) {
                    if ((rules & (1 << rule)) != 0 && book.itemsOf(rule) == items && isFree(token, items)
                            && !desk.ignores(rule, tokens.fromOf(token), lengthAt(rule, token))) {
                        cover(token, items);
                        takenAt.set(token, rule + 1);
                        return;
                    }
                }
            }
        }

        private boolean isFree(int token, int items) {
            for (int i = 0; i < items; i++) {
                if (covered.get(token + i) != 0) {
                    return false;
                }
            }
            return true;
        }

        private void cover(int token, int items) {
            for (int i = 0; i < items; i++) {
                covered.set(token + i, 1);
            }
        }

        boolean shareNoSign() {
            for (int i = 1; i < count(); i++) {
                if (fromOf(i - 1) + lengthOf(i - 1) > fromOf(i)) {
                    return false;
                }
            }
            return true;
        }

        /** Whether each rule by itself finds what is taken, ignored or left out by a clash, and all that is taken. */
        boolean accountForAll(Desk desk) {
            for (int token = 0; token < tokens.count(); token++) {
                int bits = book.foundAt(tokens, desk, token);
                for (int rule = 0; rule <= NUMBER_RULE; rule++) {
                    boolean isTaken = takenAt.get(token) == rule + 1;
                    boolean isFound = (bits & (1 << rule)) != 0;
                    if (isTaken != isFound && (isTaken || !isLeftOut(desk, rule, token))) {
                        return false;
                    }
                }
            }
            return true;
        }

        private boolean isLeftOut(Desk desk, int rule, int token) {
            int from = tokens.fromOf(token);
            int length = lengthAt(rule, token);
            if (desk.ignores(rule, from, length)) {
                return true;
            }
            for (int i = 0; i < count(); i++) {
                if (fromOf(i) < from + length && from < fromOf(i) + lengthOf(i)) {
                    return true;
                }
            }
            return false;
        }
    }
}
