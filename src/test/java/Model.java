import java.math.BigInteger;
import java.util.ArrayList;
import java.util.Comparator;
import java.util.List;
import java.util.NoSuchElementException;
import java.util.regex.Matcher;
import java.util.regex.Pattern;

/** The document once more, as plainly as the Java library allows: texts, regular expressions and sorting. */
final class Model {
    private static final class Rule {
        String pattern;
        char condition;
        boolean inQuotes;
        int rank;
        final List<String> exceptions = new ArrayList<>();
        final List<String> suggestions = new ArrayList<>();
        final boolean[] isUsed = {true, true, true, true};
        final int[] ranks = new int[4];

        int rankAt(int desk) {
            return ranks[desk] == 0 ? rank : ranks[desk];
        }
    }

    private record Finding(int rule, int from, int length, int rank) {
        boolean clashes(Finding other) {
            return from < other.from + other.length && other.from < from + length;
        }
    }

    private record Ignored(int rule, int from, int length) {
    }

    private final StringBuilder typed = new StringBuilder();
    private final StringBuilder text = new StringBuilder();
    private final List<Integer> writers = new ArrayList<>();
    private final List<Rule> rules = new ArrayList<>();
    private final List<String[]> pairs = new ArrayList<>();
    private final int[] limits = new int[4];
    private final List<List<Ignored>> ignored = new ArrayList<>();
    private final List<List<Boolean>> changed = new ArrayList<>();

    Model() {
        for (int desk = 0; desk < 4; desk++) {
            ignored.add(new ArrayList<>());
            changed.add(new ArrayList<>(List.of(true)));
        }
    }

    private static void need(boolean holds, RuntimeException otherwise) {
        if (!holds) {
            throw otherwise;
        }
    }

    private static void needArgument(boolean holds) {
        need(holds, new IllegalArgumentException());
    }

    private static void needIndex(boolean holds) {
        need(holds, new IndexOutOfBoundsException());
    }

    private static void needState(boolean holds) {
        need(holds, new IllegalStateException());
    }

    private static void needForm(boolean holds) {
        need(holds, new UnsupportedOperationException());
    }

    private static void needElement(boolean holds) {
        need(holds, new NoSuchElementException());
    }

    private static boolean isFour(int number) {
        return 0 <= number && number <= 3;
    }

    int type(char sign) {
        needArgument(String.valueOf(sign).matches("[a-z0-9 *#-]"));
        needState(typed.length() < 20);
        return typed.append(sign).length();
    }

    int wipe() {
        int length = typed.length();
        typed.setLength(0);
        return length;
    }

    int put(int place, char sign, int writer) {
        needIndex(0 <= place && place <= text.length());
        needArgument(String.valueOf(sign).matches("[a-z0-9 .\"/]") && isFour(writer));
        needState(text.length() < 160);
        putIn(place, sign, writer);
        return text.length();
    }

    private int paragraphOf(int place) {
        return (int) text.substring(0, place).chars().filter(c -> c == '/').count();
    }

    private void putIn(int place, char sign, int writer) {
        int paragraph = paragraphOf(place);
        text.insert(place, sign);
        writers.add(place, writer);
        for (int desk = 0; desk < 4; desk++) {
            changed.get(desk).set(paragraph, true);
            if (sign == '/') {
                changed.get(desk).add(paragraph, true);
            }
            List<Ignored> kept = new ArrayList<>();
            for (Ignored one : ignored.get(desk)) {
                if (place >= one.from + one.length) {
                    kept.add(one);
                } else if (place <= one.from) {
                    kept.add(new Ignored(one.rule, one.from + 1, one.length));
                }
            }
            ignored.set(desk, kept);
        }
    }

    char take(int place) {
        needIndex(0 <= place && place < text.length());
        return takeOut(place);
    }

    private char takeOut(int place) {
        int paragraph = paragraphOf(place);
        char sign = text.charAt(place);
        text.deleteCharAt(place);
        writers.remove(place);
        for (int desk = 0; desk < 4; desk++) {
            if (sign == '/') {
                changed.get(desk).remove(paragraph);
            }
            changed.get(desk).set(paragraph, true);
            List<Ignored> kept = new ArrayList<>();
            for (Ignored one : ignored.get(desk)) {
                if (place >= one.from + one.length) {
                    kept.add(one);
                } else if (place < one.from) {
                    kept.add(new Ignored(one.rule, one.from - 1, one.length));
                }
            }
            ignored.set(desk, kept);
        }
        return sign;
    }

    char at(int place) {
        needIndex(0 <= place && place < text.length());
        return text.charAt(place);
    }

    int length() {
        return text.length();
    }

    private void toldAll() {
        typed.setLength(0);
        for (int desk = 0; desk < 4; desk++) {
            told(desk);
        }
    }

    private void told(int desk) {
        changed.get(desk).replaceAll(old -> true);
    }

    int rule(char condition, boolean inQuotes, int rank) {
        needArgument("asm".indexOf(condition) >= 0 && 1 <= rank && rank <= 9);
        needForm(typed.toString().matches("([a-z]+\\*?|\\*|#)(-([a-z]+\\*?|\\*|#)){0,2}"));
        needState(rules.size() < 12);
        Rule rule = new Rule();
        rule.pattern = typed.toString();
        rule.condition = condition;
        rule.inQuotes = inQuotes;
        rule.rank = rank;
        rules.add(rule);
        toldAll();
        return rules.size() - 1;
    }

    int rules() {
        return rules.size();
    }

    private Rule ruleAt(int rule) {
        needIndex(0 <= rule && rule < rules.size());
        return rules.get(rule);
    }

    int except(int rule) {
        List<String> exceptions = ruleAt(rule).exceptions;
        needForm(typed.toString().matches("[a-z]+"));
        needState(exceptions.size() < 3);
        exceptions.add(typed.toString());
        toldAll();
        return exceptions.size();
    }

    int suggest(int rule) {
        List<String> suggestions = ruleAt(rule).suggestions;
        needForm(typed.toString().matches("(?=.)[a-z0-9 ]*\\*?[a-z0-9 ]*"));
        needState(suggestions.size() < 2);
        suggestions.add(typed.toString());
        toldAll();
        return suggestions.size();
    }

    int pair() {
        needForm(typed.toString().matches("[a-z]+ [a-z]+"));
        String[] words = typed.toString().split(" ");
        needForm(!words[0].equals(words[1]));
        needState(pairs.size() < 4);
        pairs.add(words);
        toldAll();
        return pairs.size() - 1;
    }

    boolean use(int desk, int rule, boolean isUsed) {
        Rule set = ruleAt(rule);
        needArgument(isFour(desk));
        boolean was = set.isUsed[desk];
        set.isUsed[desk] = isUsed;
        told(desk);
        return was;
    }

    int rank(int desk, int rule, int rank) {
        Rule set = ruleAt(rule);
        needArgument(isFour(desk) && 0 <= rank && rank <= 9);
        int was = set.rankAt(desk);
        set.ranks[desk] = rank;
        told(desk);
        return was;
    }

    int limit(int desk, int limit) {
        needArgument(isFour(desk) && 0 <= limit && limit <= 20);
        int was = limits[desk];
        limits[desk] = limit;
        told(desk);
        return was;
    }

    private boolean[] quotes() {
        boolean[] isIn = new boolean[text.length()];
        Matcher quote = Pattern.compile("\"[^\"/]*(\"|(?=/)|$)").matcher(text);
        while (quote.find()) {
            for (int i = quote.start(); i < quote.end(); i++) {
                isIn[i] = true;
            }
        }
        return isIn;
    }

    private static String regexOf(String pattern) {
        StringBuilder regex = new StringBuilder();
        for (String item : pattern.split("-")) {
            regex.append(regex.length() == 0 ? "" : " ");
            if (item.equals("#")) {
                regex.append("(?<![0-9])[0-9]+(?![0-9])");
            } else if (item.equals("*")) {
                regex.append("(?<![a-z])[a-z]+(?![a-z])");
            } else {
                regex.append("(?<![a-z])").append(item.replace("*", "[a-z]*")).append("(?![a-z])");
            }
        }
        return regex.toString();
    }

    private boolean isFirst(int from) {
        int begin = Math.max(text.lastIndexOf("/", from), text.lastIndexOf(".", from)) + 1;
        return !text.substring(begin, from).matches(".*[a-z0-9].*");
    }

    private String aheadOf(int from) {
        String ahead = text.substring(text.lastIndexOf("/", from) + 1, from);
        Matcher last = Pattern.compile("([a-z]+|[0-9]+)[^a-z0-9]*$").matcher(ahead);
        return last.find() ? last.group(1) : "";
    }

    private List<Finding> candidates(int desk) {
        boolean[] isIn = quotes();
        List<Finding> all = new ArrayList<>();
        for (int i = 0; i < rules.size(); i++) {
            Rule rule = rules.get(i);
            Matcher matcher = Pattern.compile(regexOf(rule.pattern)).matcher(text).useTransparentBounds(true);
            for (int from = 0; from < text.length() && rule.isUsed[desk]; from++) {
                if (!matcher.region(from, text.length()).lookingAt()) {
                    continue;
                }
                boolean touchesQuote = false;
                for (int k = from; k < matcher.end(); k++) {
                    touchesQuote |= isIn[k];
                }
                boolean fits = rule.condition == 'a' || isFirst(from) == (rule.condition == 's');
                if (fits && (rule.inQuotes || !touchesQuote) && !rule.exceptions.contains(aheadOf(from))) {
                    all.add(new Finding(i, from, matcher.end() - from, rule.rankAt(desk)));
                }
            }
        }
        Matcher number = Pattern.compile("[0-9]+").matcher(text);
        while (number.find()) {
            boolean isSmall = new BigInteger(number.group()).compareTo(BigInteger.valueOf(limits[desk])) < 0;
            if (isSmall && !isIn[number.start()]) {
                all.add(new Finding(20, number.start(), number.group().length(), 1));
            }
        }
        for (int i = 0; i < pairs.size(); i++) {
            String decides = null;
            Matcher word = Pattern.compile("[a-z]+").matcher(text);
            while (word.find()) {
                String is = word.group();
                if (isIn[word.start()] || !List.of(pairs.get(i)).contains(is)) {
                    continue;
                }
                decides = decides == null ? is : decides;
                if (!is.equals(decides)) {
                    all.add(new Finding(12 + i, word.start(), is.length(), 5));
                }
            }
        }
        return all;
    }

    private List<Finding> found(int desk) {
        List<Finding> all = candidates(desk);
        all.removeIf(one -> ignored.get(desk).contains(new Ignored(one.rule, one.from, one.length)));
        all.sort(Comparator.comparingInt((Finding one) -> -one.rank).thenComparingInt(one -> one.from)
                .thenComparingInt(one -> -one.length).thenComparingInt(one -> one.rule));
        List<Finding> taken = new ArrayList<>();
        for (Finding one : all) {
            if (taken.stream().noneMatch(one::clashes)) {
                taken.add(one);
            }
        }
        taken.sort(Comparator.comparingInt(one -> one.from));
        return taken;
    }

    int findings(int desk) {
        needArgument(isFour(desk));
        return found(desk).size();
    }

    private Finding findingAt(int desk, int finding) {
        List<Finding> found = found(desk);
        needElement(0 <= finding && finding < found.size());
        return found.get(finding);
    }

    private int suggestionsOf(int rule) {
        if (rule < 12) {
            return rules.get(rule).suggestions.size();
        }
        return rule == 20 ? 0 : 1;
    }

    int of(int desk, int finding, char what) {
        needArgument(isFour(desk) && "flrkws".indexOf(what) >= 0);
        Finding one = findingAt(desk, finding);
        switch (what) {
            case 'f': return one.from;
            case 'l': return one.length;
            case 'r': return one.rule;
            case 'k': return one.rank;
            case 'w': return writers.get(one.from);
            default: return suggestionsOf(one.rule);
        }
    }

    private String suggestion(Finding one, int suggestion) {
        needElement(0 <= suggestion && suggestion < suggestionsOf(one.rule));
        String span = text.substring(one.from, one.from + one.length);
        if (one.rule >= 12) {
            String[] words = pairs.get(one.rule - 12);
            return span.equals(words[0]) ? words[1] : words[0];
        }
        String[] items = rules.get(one.rule).pattern.split("-");
        String taken = "";
        for (int i = items.length - 1; i >= 0; i--) {
            if (items[i].endsWith("*")) {
                taken = span.split(" ")[i].substring(items[i].length() - 1);
            }
        }
        return rules.get(one.rule).suggestions.get(suggestion).replace("*", taken);
    }

    int size(int desk, int finding, int suggestion) {
        needArgument(isFour(desk));
        return suggestion(findingAt(desk, finding), suggestion).length();
    }

    char sign(int desk, int finding, int suggestion, int place) {
        needArgument(isFour(desk));
        String signs = suggestion(findingAt(desk, finding), suggestion);
        needElement(0 <= place && place < signs.length());
        return signs.charAt(place);
    }

    int apply(int desk, int finding, int suggestion, int writer) {
        needArgument(isFour(desk) && isFour(writer));
        Finding one = findingAt(desk, finding);
        String signs = suggestion(one, suggestion);
        needState(text.length() - one.length + signs.length() <= 160);
        for (int i = 0; i < one.length; i++) {
            takeOut(one.from);
        }
        for (int i = 0; i < signs.length(); i++) {
            putIn(one.from + i, signs.charAt(i), writer);
        }
        return text.length();
    }

    int ignore(int desk, int finding) {
        needArgument(isFour(desk));
        Finding one = findingAt(desk, finding);
        needState(ignored.get(desk).size() < 20);
        ignored.get(desk).add(new Ignored(one.rule, one.from, one.length));
        return ignored.get(desk).size();
    }

    int ignored(int desk) {
        needArgument(isFour(desk));
        return ignored.get(desk).size();
    }

    int heed(int desk) {
        int count = ignored(desk);
        ignored.get(desk).clear();
        return count;
    }

    int tokens(boolean inQuotes) {
        boolean[] isIn = quotes();
        Matcher token = Pattern.compile("[a-z]+|[0-9]+").matcher(text);
        int count = 0;
        while (token.find()) {
            count += isIn[token.start()] == inQuotes ? 1 : 0;
        }
        return count;
    }

    int paragraphs() {
        return text.toString().split("/", -1).length;
    }

    int check(int desk) {
        needArgument(isFour(desk));
        int count = (int) changed.get(desk).stream().filter(one -> one).count();
        changed.get(desk).replaceAll(old -> false);
        return count;
    }

    int byRule(int desk, int rule) {
        needArgument(isFour(desk) && 0 <= rule && rule <= 20);
        return (int) found(desk).stream().filter(one -> one.rule == rule).count();
    }

    int byWriter(int desk, int writer) {
        needArgument(isFour(desk) && isFour(writer));
        return (int) found(desk).stream().filter(one -> writers.get(one.from) == writer).count();
    }

    long checksum() {
        long sum = 7;
        for (char sign : text.toString().toCharArray()) {
            sum = 31 * sum + sign;
        }
        for (Finding one : found(0)) {
            sum = 31 * sum + one.from;
            sum = 31 * sum + one.rule;
        }
        return sum;
    }

    float foundShare(int desk) {
        needArgument(isFour(desk));
        need(text.length() > 0, new ArithmeticException());
        return (float) found(desk).stream().mapToInt(one -> one.length).sum() / (float) text.length();
    }

    double meanWord() {
        Matcher word = Pattern.compile("[a-z]+").matcher(text);
        int sum = 0;
        int count = 0;
        while (word.find()) {
            sum += word.group().length();
            count++;
        }
        need(count > 0, new ArithmeticException());
        return (double) sum / (double) count;
    }

    boolean isSound() {
        return true;
    }
}
