import java.util.ArrayList;
import java.util.HashSet;
import java.util.List;
import java.util.Map;
import java.util.Set;
import java.util.TreeMap;
import java.util.regex.Matcher;
import java.util.regex.Pattern;

/** The document again, written in another way: a text by a pattern and its prefixes, ways by walking them. */
final class Model {
    private static final String B = " *+";
    private static final String NUMBER = B + "(?:0|[1-9][0-9]{0,3})" + B;
    private static final String WORDS = B + "\"[ !#-~]{1,12}\"" + B;
    private static final String SPAN = NUMBER + "-" + NUMBER;
    private static final String JUMP = B + ">" + NUMBER + "(?:[+]" + NUMBER + ")?";
    private static final String QUESTION = "q" + NUMBER + "[!?]" + SPAN + WORDS + "(?:" + WORDS + ")?:"
        + "(?:" + SPAN + JUMP + ",){0,5}" + JUMP + ";";
    private static final String TERM = B + "(?:q" + NUMBER + "[=<>]|p" + B + "[<>])" + NUMBER;
    private static final String CONDITION = "[(]" + TERM + "(?:&" + TERM + "){0,3}:" + NUMBER + "[)]" + B;
    private static final String KIND = "k" + NUMBER + "=" + NUMBER + ":" + NUMBER + "(?:" + CONDITION + "){0,6};";
    private static final Pattern TEXT = Pattern.compile(B + "(?:(?:" + QUESTION + "|" + KIND + ")" + B + ")*",
        Pattern.DOTALL);
    private static final Pattern TOKEN = Pattern.compile("\"[^\"]*\"?|0|[1-9][0-9]{0,3}|[^ ]", Pattern.DOTALL);

    private record Jump(int low, int high, int target, int points) { }

    private record Question(boolean must, int low, int high, List<String> words, List<Jump> jumps) { }

    private record Term(int about, char relation, int value) { }

    private record Condition(List<Term> terms, int priority) { }

    private record Kind(int first, int priority, List<Condition> conditions) { }

    private record Edition(Map<Integer, Question> questions, Map<Integer, Kind> kinds) { }

    private final StringBuilder tape = new StringBuilder();
    private final List<Edition> editions = new ArrayList<>();
    private Edition chosen = new Edition(new TreeMap<>(), new TreeMap<>());
    private int place = -1;
    private int kind = 0;
    private int now = 0;
    private int points = 0;
    private final List<Integer> asked = new ArrayList<>();
    private final Map<Integer, Integer> answers = new TreeMap<>();

    Model() {
        editions.add(chosen);
    }

    String answerOf(String method, long... given) {
        try {
            return String.valueOf(called(method, given));
        } catch (IllegalArgumentException e) {
            return Run.ARGUMENT;
        } catch (IllegalStateException e) {
            return Run.STATE;
        }
    }

    private int called(String method, long[] given) {
        switch (method) {
            case "sign": return sign(given[0], (int) given[1]);
            case "read": return read();
            case "place": return place;
            case "edition": return edition((int) given[0]);
            case "first": return first((int) given[0]);
            case "answer": return answer((int) given[0]);
            case "kind": return kind;
            case "priority": return priority();
            case "points": return stateUnless(kind != 0, points);
            case "asked": return nth(asked, (int) given[0]);
            case "loop": return nth(loops(), (int) given[0]);
            case "never": return nth(nevers(), (int) given[0]);
            case "endless": return nth(endlessKinds(), (int) given[0]);
            default: return word((int) given[0], (int) given[1], (int) given[2]);
        }
    }

    private static int stateUnless(boolean right, int value) {
        if (!right) {
            throw new IllegalStateException();
        }
        return value;
    }

    private static void argumentUnless(boolean right) {
        if (!right) {
            throw new IllegalArgumentException();
        }
    }

    private static int nth(List<Integer> row, int i) {
        argumentUnless(i >= 0);
        return i < row.size() ? row.get(i) : 0;
    }

    private int sign(long bytes, int n) {
        argumentUnless(n >= 1 && n <= 8);
        stateUnless(tape.length() + n <= 400, 0);
        for (int i = 8 - n; i < 8; i++) {
            tape.append((char) (bytes >> 56 - 8 * i & 255));
        }
        return tape.length();
    }

    private int read() {
        String text = tape.toString();
        tape.setLength(0);
        endCall();
        place = wrongPlace(text);
        argumentUnless(place == -1);
        stateUnless(editions.size() < 9, 0);
        Edition next = new Edition(new TreeMap<>(chosen.questions), new TreeMap<>(chosen.kinds));
        new Rows(tokens(text), next).all();
        editions.add(next);
        chosen = next;
        return chosen.questions.size();
    }

    private void endCall() {
        kind = 0;
        now = 0;
        points = 0;
        asked.clear();
        answers.clear();
    }

    private int edition(int e) {
        argumentUnless(e >= 0 && e < editions.size());
        endCall();
        chosen = editions.get(e);
        return chosen.questions.size();
    }

    private int first(int wanted) {
        argumentUnless(chosen.kinds.containsKey(wanted));
        endCall();
        kind = wanted;
        return ask(chosen.kinds.get(wanted).first);
    }

    private int ask(int target) {
        now = chosen.questions.containsKey(target) ? target : 0;
        if (now != 0) {
            asked.add(now);
        }
        return now;
    }

    private int answer(int v) {
        stateUnless(now != 0, 0);
        Question question = chosen.questions.get(now);
        argumentUnless(v == -1 && !question.must || v >= question.low && v <= question.high);
        Jump taken = question.jumps.get(question.jumps.size() - 1);
        for (int j = question.jumps.size() - 2; j >= 0; j--) {
            Jump jump = question.jumps.get(j);
            taken = v >= jump.low && v <= jump.high ? jump : taken;
        }
        stateUnless(asked.size() < 40 || !chosen.questions.containsKey(taken.target), 0);
        answers.put(now, v);
        points += taken.points;
        return ask(taken.target);
    }

    private int priority() {
        stateUnless(kind != 0, 0);
        Kind walked = chosen.kinds.get(kind);
        for (Condition condition : walked.conditions) {
            if (condition.terms.stream().allMatch(this::holds)) {
                return condition.priority;
            }
        }
        return walked.priority;
    }

    private boolean holds(Term term) {
        int known = term.about == 0 ? points : answers.getOrDefault(term.about, -1);
        return known >= 0 && (term.relation == '=' && known == term.value || term.relation == '<' && known < term.value
            || term.relation == '>' && known > term.value);
    }

    private int word(int question, int language, int i) {
        argumentUnless(chosen.questions.containsKey(question) && (language == 0 || language == 1) && i >= 0);
        List<String> words = chosen.questions.get(question).words;
        String told = words.get(Math.min(language, words.size() - 1));
        return i < told.length() ? told.charAt(i) : -1;
    }

    /** Where one comes from a target by jumps, the target with it; 0 for the end. */
    private Set<Integer> from(int target) {
        Set<Integer> seen = new HashSet<>();
        List<Integer> open = new ArrayList<>(List.of(target));
        while (!open.isEmpty()) {
            int next = open.remove(open.size() - 1);
            Question question = chosen.questions.get(next);
            if (seen.add(question == null ? 0 : next) && question != null) {
                question.jumps.forEach(jump -> open.add(jump.target));
            }
        }
        return seen;
    }

    private List<Integer> loops() {
        List<Integer> row = new ArrayList<>();
        chosen.questions.forEach((number, question) -> {
            if (question.jumps.stream().anyMatch(jump -> from(jump.target).contains(number))) {
                row.add(number);
            }
        });
        return row;
    }

    private List<Integer> nevers() {
        List<Integer> row = new ArrayList<>(chosen.questions.keySet());
        chosen.kinds.values().forEach(told -> row.removeAll(from(told.first)));
        return row;
    }

    private List<Integer> endlessKinds() {
        List<Integer> row = new ArrayList<>(chosen.kinds.keySet());
        row.removeIf(number -> from(chosen.kinds.get(number).first).contains(0));
        return row;
    }

    /** The first byte with which no text of the pattern goes on, or an earlier number that is not so. */
    static int wrongPlace(String text) {
        Matcher matcher = TEXT.matcher(text);
        int grammar = -1;
        for (int end = 1; end <= text.length() && grammar == -1; end++) {
            matcher.reset().region(0, end);
            grammar = matcher.matches() || matcher.hitEnd() ? -1 : end - 1;
        }
        if (grammar == -1 && !matcher.reset().matches()) {
            grammar = text.length();
        }
        int number = wrongNumber(text, grammar == -1 ? text.length() : grammar);
        return number == -1 ? grammar : number;
    }

    /** The last byte of the first number that is not so, by the signs before it. */
    private static int wrongNumber(String text, int end) {
        Matcher token = TOKEN.matcher(text.substring(0, end));
        Set<String> told = new HashSet<>();
        char row = ' ';
        char before = ' ';
        boolean inCondition = false;
        boolean head = false;
        int low = 0;
        while (token.find()) {
            char sign = token.group().charAt(0);
            if (!Character.isDigit(sign)) {
                inCondition = sign == '(' || inCondition && sign != ')';
                head = head && sign != ':' || !inCondition && (sign == 'q' || sign == 'k');
                row = !inCondition && (sign == 'q' || sign == 'k') ? sign : row;
                before = sign;
                continue;
            }
            int value = Integer.parseInt(token.group());
            boolean names = before == 'k' || before == 'q' && !inCondition;
            boolean right = !names || told.add(before + token.group());
            switch (before) {
                case 'q': right &= value >= 1 && value <= 60; break;
                case 'k': right &= value >= 1 && value <= 9; break;
                case '-': right = value >= low; break;
                case '+': right = value <= 999; break;
                case '>': right = inCondition || value <= 60; break;
                case '=': right = !head || value >= 1 && value <= 60; break;
                case ':': right = row == 'q' || value <= 9; break;
                default: break;
            }
            if (!right) {
                return token.end() - 1;
            }
            low = value;
        }
        return -1;
    }

    private static List<String> tokens(String text) {
        List<String> found = new ArrayList<>();
        Matcher token = TOKEN.matcher(text);
        while (token.find()) {
            found.add(token.group());
        }
        return found;
    }

    /** The rows of a right text, from its tokens. */
    private static final class Rows {
        private final List<String> tokens;
        private final Edition into;
        private int at = 0;

        Rows(List<String> tokens, Edition into) {
            this.tokens = tokens;
            this.into = into;
        }

        void all() {
            while (at < tokens.size()) {
                if (next().equals("q")) {
                    into.questions.put(number(), question());
                } else {
                    into.kinds.put(number(), kind());
                }
            }
        }

        private String next() {
            return tokens.get(at++);
        }

        private int number() {
            return Integer.parseInt(next());
        }

        private int behind() {
            at++;
            return number();
        }

        private Question question() {
            boolean must = next().equals("!");
            int low = number();
            int high = behind();
            List<String> words = new ArrayList<>();
            for (String told = next(); !told.equals(":"); told = next()) {
                words.add(told.substring(1, told.length() - 1));
            }
            List<Jump> jumps = new ArrayList<>();
            do {
                boolean spanned = !tokens.get(at).equals(">");
                int from = spanned ? number() : 0;
                int to = spanned ? behind() : 0;
                int target = behind();
                jumps.add(new Jump(from, to, target, tokens.get(at).equals("+") ? behind() : 0));
            } while (next().equals(","));
            return new Question(must, low, high, words, jumps);
        }

        private Kind kind() {
            int first = behind();
            int priority = behind();
            List<Condition> conditions = new ArrayList<>();
            while (next().equals("(")) {
                List<Term> terms = new ArrayList<>();
                do {
                    int about = next().equals("p") ? 0 : number();
                    terms.add(new Term(about, next().charAt(0), number()));
                } while (next().equals("&"));
                conditions.add(new Condition(terms, number()));
                at++;
            }
            return new Kind(first, priority, conditions);
        }
    }
}
