import java.util.ArrayList;
import java.util.Arrays;
import java.util.List;

/** Question rows for calls, told in texts that make editions; calls are walked through the chosen one. */
public final class QuestionText {
    private static final int MAX_BYTES = 400;
    private static final int MAX_BYTES_AT_ONCE = 8;
    private static final int MAX_EDITIONS = 8;
    private static final int MAX_QUESTION = 60;
    private static final int MAX_KIND = 9;
    private static final int MAX_ASKED = 40;
    private static final int MAX_DIGITS = 4;
    private static final int MAX_NUMBER = 9999;
    private static final int MAX_WORD_BYTES = 12;
    private static final int MAX_JUMPS = 6;
    private static final int MAX_POINTS = 999;
    private static final int MAX_PRIORITY = 9;
    private static final int MAX_CONDITIONS = 6;
    private static final int MAX_TERMS = 4;

    /** No question's number: the end as a target, and the points as what a term is about. */
    private static final int NONE = 0;
    private static final int NO_ANSWER = -1;
    private static final int NOWHERE = -1;
    private static final int BEHIND = -1;

    private final TextReader reader = new TextReader();
    private final Edition[] editions = new Edition[MAX_EDITIONS + 1];
    private final Call call = new Call();
    private Edition chosen = new Edition();
    private int made = 0;
    private int wrongPlace = NOWHERE;

    public QuestionText() {
        editions[0] = chosen;
    }

    public int sign(long bytes, int n) throws IllegalArgumentException, IllegalStateException {
        if (n < 1 || n > MAX_BYTES_AT_ONCE) {
            throw new IllegalArgumentException("1 to 8 bytes at once");
        }
        if (reader.length + n > MAX_BYTES) {
            throw new IllegalStateException("a text has at most 400 bytes");
        }
        for (int left = n - 1; left >= 0; left--) {
            reader.add((int) (bytes >>> (8 * left)) & 255);
        }
        return reader.length;
    }

    public int read() throws IllegalArgumentException, IllegalStateException {
        call.clear();
        wrongPlace = reader.readTape();
        if (wrongPlace != NOWHERE) {
            throw new IllegalArgumentException("the text is wrong");
        }
        if (made >= MAX_EDITIONS) {
            throw new IllegalStateException("there are 8 editions");
        }
        Edition next = new Edition();
        next.putRows(chosen.questions, chosen.kinds);
        next.putRows(reader.questions, reader.kinds);
        next.study();
        made++;
        editions[made] = next;
        chosen = next;
        return chosen.size;
    }

    public int place() {
        return wrongPlace;
    }

    public int edition(int e) throws IllegalArgumentException {
        if (e < 0 || e > made) {
            throw new IllegalArgumentException("no such edition");
        }
        call.clear();
        chosen = editions[e];
        return chosen.size;
    }

    public int first(int kind) throws IllegalArgumentException {
        Kind begun = chosen.kindAt(kind);
        if (begun == null) {
            throw new IllegalArgumentException("no such kind in the edition");
        }
        call.clear();
        call.kind = kind;
        call.ask(chosen.asNext(begun.first));
        return call.now;
    }

    public int answer(int v) throws IllegalArgumentException, IllegalStateException {
        Question question = chosen.questionAt(call.now);
        if (question == null) {
            throw new IllegalStateException("no question is asked");
        }
        if (!question.allows(v)) {
            throw new IllegalArgumentException("not an answer to this question");
        }
        Jump jump = question.jumpFor(v);
        int next = chosen.asNext(jump.target);
        if (next != NONE && call.count >= MAX_ASKED) {
            throw new IllegalStateException("40 questions were asked");
        }
        call.latest[call.now] = v;
        call.points += jump.points;
        call.ask(next);
        return next;
    }

    public int kind() {
        return call.kind;
    }

    public int priority() throws IllegalStateException {
        Kind walked = chosen.kindAt(call.kind);
        if (walked == null) {
            throw new IllegalStateException("there is no call");
        }
        return walked.priorityOf(call);
    }

    public int points() throws IllegalStateException {
        if (call.kind == NONE) {
            throw new IllegalStateException("there is no call");
        }
        return call.points;
    }

    public int asked(int i) throws IllegalArgumentException {
        if (i < 0) {
            throw new IllegalArgumentException("below 0");
        }
        return i < call.count ? call.asked[i] : NONE;
    }

    public int loop(int i) throws IllegalArgumentException {
        if (i < 0) {
            throw new IllegalArgumentException("below 0");
        }
        return memberOf(chosen.onLoop, i);
    }

    public int never(int i) throws IllegalArgumentException {
        if (i < 0) {
            throw new IllegalArgumentException("below 0");
        }
        return memberOf(chosen.unreached, i);
    }

    public int endless(int i) throws IllegalArgumentException {
        if (i < 0) {
            throw new IllegalArgumentException("below 0");
        }
        return memberOf(chosen.withoutEnd, i);
    }

    public int word(int question, int language, int i) throws IllegalArgumentException {
        Question told = chosen.questionAt(question);
        if (told == null || language < 0 || language > 1 || i < 0) {
            throw new IllegalArgumentException("no such question, language or byte");
        }
        int[] words = language == 0 ? told.words : told.otherWords;
        return i < words.length ? words[i] : BEHIND;
    }

    /** Member i, from the smallest, of a set of numbers held as bits 1 to 60; 0 when it has not so many. */
    private static int memberOf(long set, int i) {
        int before = 0;
        for (int number = 1; number <= MAX_QUESTION; number++) {
            if (hasMember(set, number)) {
                if (before == i) {
                    return number;
                }
                before++;
            }
        }
        return NONE;
    }

    private static boolean hasMember(long set, int number) {
        return (set >>> number & 1L) != 0L;
    }

    /** Numbers from one to another, both with it. */
    private static final class Span {
        private final int low;
        private final int high;

        Span(int low, int high) {
            this.low = low;
            this.high = high;
        }

        boolean has(int v) {
            return v >= low && v <= high;
        }
    }

    /** A way on from a question, for the answers of a span. */
    private static final class Jump {
        private final Span span;
        private final int target;
        private final int points;

        Jump(Span span, int target, int points) {
            this.span = span;
            this.target = target;
            this.points = points;
        }
    }

    /** A question's row: the jumps that have a span, and the last one, which has none. */
    private static final class Question {
        private final boolean must;
        private final Span span;
        private final int[] words;
        private final int[] otherWords;
        private final List<Jump> jumps;
        private final Jump lastJump;

        Question(boolean must, Span span, int[] words, int[] otherWords, List<Jump> jumps, Jump lastJump) {
            this.must = must;
            this.span = span;
            this.words = words;
            this.otherWords = otherWords;
            this.jumps = jumps;
            this.lastJump = lastJump;
        }

        boolean allows(int v) {
            return v == NO_ANSWER ? !must : span.has(v);
        }

        Jump jumpFor(int v) {
            for (int j = 0; j < jumps.size(); j++) {
                if (jumps.get(j).span.has(v)) {
                    return jumps.get(j);
                }
            }
            return lastJump;
        }
    }

    /** A part of a condition: about the latest answer to a question, or about the points. */
    private static final class Term {
        private final int about;
        private final int relation;
        private final int value;

        Term(int about, int relation, int value) {
            this.about = about;
            this.relation = relation;
            this.value = value;
        }

        boolean holds(Call call) {
            int known = about == NONE ? call.points : call.latest[about];
            // Points are never below 0: what is -1 is an answer that was not given.
            if (known == NO_ANSWER) {
                return false;
            }
            switch (relation) {
                case '<':
                    return known < value;
                case '>':
                    return known > value;
                default:
                    return known == value;
            }
        }
    }

    private static final class Condition {
        private final List<Term> terms;
        private final int priority;

        Condition(List<Term> terms, int priority) {
            this.terms = terms;
            this.priority = priority;
        }

        boolean holds(Call call) {
            for (int t = 0; t < terms.size(); t++) {
                if (!terms.get(t).holds(call)) {
                    return false;
                }
            }
            return true;
        }
    }

    /** A kind's row. */
    private static final class Kind {
        private final int first;
        private final int priority;
        private final List<Condition> conditions;

        Kind(int first, int priority, List<Condition> conditions) {
            this.first = first;
            this.priority = priority;
            this.conditions = conditions;
        }

        int priorityOf(Call call) {
            for (int c = 0; c < conditions.size(); c++) {
                if (conditions.get(c).holds(call)) {
                    return conditions.get(c).priority;
                }
            }
            return priority;
        }
    }

    /** The call that is walked; one object is used for all calls, one after the other. */
    private static final class Call {
        private final int[] asked = new int[MAX_ASKED];
        private final int[] latest = new int[MAX_QUESTION + 1];
        private int count = 0;
        private int now = NONE;
        private int points = 0;
        private int kind = NONE;

        void clear() {
            Arrays.fill(latest, NO_ANSWER);
            count = 0;
            now = NONE;
            points = 0;
            kind = NONE;
        }

        void ask(int question) {
            now = question;
            if (question != NONE && count < MAX_ASKED) {
                asked[count] = question;
                count++;
            }
        }
    }

    /** Rows by their numbers, and what follows from them; not changed once it can be chosen. */
    private static final class Edition {
        private final Question[] questions = new Question[MAX_QUESTION + 1];
        private final Kind[] kinds = new Kind[MAX_KIND + 1];
        private int size = 0;
        private long onLoop = 0L;
        private long unreached = 0L;
        private long withoutEnd = 0L;

        Question questionAt(int number) {
            return number < 1 || number > MAX_QUESTION ? null : questions[number];
        }

        Kind kindAt(int number) {
            return number < 1 || number > MAX_KIND ? null : kinds[number];
        }

        /** What is asked when a target comes next: the end, too, where the target is no question. */
        int asNext(int target) {
            return questionAt(target) == null ? NONE : target;
        }

        void putRows(Question[] newQuestions, Kind[] newKinds) {
            for (int q = 1; q <= MAX_QUESTION && q < newQuestions.length; q++) {
                if (newQuestions[q] != null) {
                    questions[q] = newQuestions[q];
                }
            }
            for (int k = 1; k <= MAX_KIND && k < newKinds.length; k++) {
                if (newKinds[k] != null) {
                    kinds[k] = newKinds[k];
                }
            }
        }

        void study() {
            long[] ways = waysByJumps();
            long reached = 0L;
            for (int k = 1; k <= MAX_KIND; k++) {
                int start = kinds[k] == null ? NONE : asNext(kinds[k].first);
                // A kind whose first question is none ends at once.
                if (start != NONE) {
                    reached |= 1L << start | ways[start];
                    withoutEnd |= hasMember(ways[start], NONE) ? 0L : 1L << k;
                }
            }
            for (int q = 1; q <= MAX_QUESTION; q++) {
                if (questions[q] != null) {
                    size++;
                    onLoop |= hasMember(ways[q], q) ? 1L << q : 0L;
                    unreached |= hasMember(reached, q) ? 0L : 1L << q;
                }
            }
        }

        /** For each question the set of where one comes from it by one or more jumps; 0 is the end. */
        private long[] waysByJumps() {
            long[] ways = new long[MAX_QUESTION + 1];
            for (int q = 1; q <= MAX_QUESTION; q++) {
                ways[q] = questions[q] == null ? 0L : targetsOf(questions[q]);
            }
            for (int over = 1; over <= MAX_QUESTION; over++) {
                for (int from = 1; from <= MAX_QUESTION; from++) {
                    if (hasMember(ways[from], over)) {
                        ways[from] |= ways[over];
                    }
                }
            }
            return ways;
        }

        private long targetsOf(Question question) {
            long targets = 1L << asNext(question.lastJump.target);
            for (int j = 0; j < question.jumps.size(); j++) {
                targets |= 1L << asNext(question.jumps.get(j).target);
            }
            return targets;
        }
    }

    /** Holds the tape and reads the rows of the text on it. */
    private static final class TextReader {
        private static final int END = -1;

        private final int[] tape = new int[MAX_BYTES];
        private final Question[] questions = new Question[MAX_QUESTION + 1];
        private final Kind[] kinds = new Kind[MAX_KIND + 1];
        private int length = 0;
        private int at = 0;

        void add(int oneByte) {
            if (length < MAX_BYTES) {
                tape[length] = oneByte;
                length++;
            }
        }

        /** Reads the text and uses the tape up: where the text is wrong, NOWHERE when it is right. */
        int readTape() {
            forgetRows();
            at = 0;
            int wrong = NOWHERE;
            try {
                for (int row = 0; row < MAX_BYTES && nextSign() != END; row++) {
                    if (took('q')) {
                        readQuestion();
                    } else {
                        take('k');
                        readKind();
                    }
                }
            } catch (IllegalArgumentException e) {
                wrong = at;
            }
            length = 0;
            return wrong;
        }

        private void forgetRows() {
            for (int q = 0; q <= MAX_QUESTION; q++) {
                questions[q] = null;
            }
            for (int k = 0; k <= MAX_KIND; k++) {
                kinds[k] = null;
            }
        }

        private void readQuestion() {
            int number = readNumber(1, MAX_QUESTION);
            if (questions[number] != null) {
                fail(at - 1);
            }
            boolean must = took('!');
            if (!must) {
                take('?');
            }
            Span span = readSpan();
            int[] words = readWords();
            int[] otherWords = nextSign() == '"' ? readWords() : words;
            take(':');
            List<Jump> jumps = new ArrayList<>();
            // The last jump that there may be has no span: a digit is wrong there.
            for (int j = 1; j < MAX_JUMPS && isDigit(nextSign()); j++) {
                jumps.add(readJump(readSpan()));
                take(',');
            }
            Jump lastJump = readJump(new Span(NO_ANSWER, MAX_NUMBER));
            take(';');
            questions[number] = new Question(must, span, words, otherWords, jumps, lastJump);
        }

        private Span readSpan() {
            int low = readNumber(0, MAX_NUMBER);
            take('-');
            return new Span(low, readNumber(low, MAX_NUMBER));
        }

        private int[] readWords() {
            take('"');
            int start = at;
            while (at < length && at < start + MAX_WORD_BYTES && isWordByte(tape[at])) {
                at++;
            }
            // A blank belongs to the words, so the closing sign must stand right here.
            if (at == start || at >= length || tape[at] != '"') {
                fail(at);
            }
            at++;
            return Arrays.copyOfRange(tape, start, at - 1);
        }

        private Jump readJump(Span span) {
            take('>');
            int target = readNumber(0, MAX_QUESTION);
            int points = took('+') ? readNumber(0, MAX_POINTS) : 0;
            return new Jump(span, target, points);
        }

        private void readKind() {
            int number = readNumber(1, MAX_KIND);
            if (kinds[number] != null) {
                fail(at - 1);
            }
            take('=');
            int first = readNumber(1, MAX_QUESTION);
            take(':');
            int priority = readNumber(0, MAX_PRIORITY);
            List<Condition> conditions = new ArrayList<>();
            for (int c = 0; c < MAX_CONDITIONS && took('('); c++) {
                conditions.add(readCondition());
            }
            take(';');
            kinds[number] = new Kind(first, priority, conditions);
        }

        private Condition readCondition() {
            List<Term> terms = new ArrayList<>();
            terms.add(readTerm());
            for (int t = 1; t < MAX_TERMS && took('&'); t++) {
                terms.add(readTerm());
            }
            take(':');
            int priority = readNumber(0, MAX_PRIORITY);
            take(')');
            return new Condition(terms, priority);
        }

        private Term readTerm() {
            int about = NONE;
            if (!took('p')) {
                take('q');
                about = readNumber(1, MAX_QUESTION);
            }
            int relation = nextSign();
            if (relation != '<' && relation != '>' && (relation != '=' || about == NONE)) {
                fail(at);
            }
            at++;
            return new Term(about, relation, readNumber(0, MAX_NUMBER));
        }

        private int readNumber(int low, int high) {
            int sign = nextSign();
            if (!isDigit(sign)) {
                fail(at);
            }
            int value = sign - '0';
            at++;
            // No number has a 0 in front: behind a 0 it is at its end.
            for (int digits = 1; digits < MAX_DIGITS && value != 0 && at < length && isDigit(tape[at]); digits++) {
                value = value * 10 + tape[at] - '0';
                at++;
            }
            if (value < low || value > high) {
                fail(at - 1);
            }
            return value;
        }

        private void take(int sign) {
            if (nextSign() != sign) {
                fail(at);
            }
            at++;
        }

        private boolean took(int sign) {
            if (nextSign() != sign) {
                return false;
            }
            at++;
            return true;
        }

        /** The byte behind the blanks that stand here, which is not taken yet. */
        private int nextSign() {
            while (at < length && tape[at] == ' ') {
                at++;
            }
            return at < length ? tape[at] : END;
        }

        private void fail(int place) {
            at = place;
            throw new IllegalArgumentException("wrong here");
        }

        private static boolean isDigit(int sign) {
            return sign >= '0' && sign <= '9';
        }

        private static boolean isWordByte(int sign) {
            return sign >= 32 && sign <= 126 && sign != '"';
        }
    }
}
