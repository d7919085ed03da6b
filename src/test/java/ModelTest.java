import java.util.Random;

/** All promises: random runs, always the same ones, whose answers are compared with the model's. */
public final class ModelTest {
    private static final int RUNS = 1500;
    private static final int CALLS = 512;

    private final Random random;
    private final Run run;
    private final Model model = new Model();
    private final int questions;
    private final int kinds;
    private int calls = 0;

    private ModelTest(long seed) {
        random = new Random(seed);
        run = new Run("seed " + seed);
        questions = random.nextInt(5) == 0 ? 60 : 2 + random.nextInt(6);
        kinds = 1 + random.nextInt(random.nextInt(4) == 0 ? 9 : 3);
    }

    public static void main(String[] args) {
        for (long seed = 1; seed <= RUNS; seed++) {
            new ModelTest(seed).walk();
        }
        Run.end();
    }

    private void walk() {
        while (calls < CALLS) {
            if (random.nextInt(40) == 0) {
                text();
            } else {
                oneCall();
            }
        }
    }

    private void same(String method, long... given) {
        if (calls >= CALLS) {
            return;
        }
        StringBuilder call = new StringBuilder(method).append('(');
        for (int i = 0; i < given.length; i++) {
            call.append(i == 0 ? "" : ", ").append(given[i]);
        }
        String want = model.answerOf(method, given);
        run.due(call.append(')').toString(), want);
        calls++;
    }

    private void text() {
        String text = spoiled(rows());
        for (int at = 0; at < text.length();) {
            int n = Math.min(random.nextInt(10) == 0 ? 1 + random.nextInt(8) : 8, text.length() - at);
            long packed = random.nextLong();
            for (int i = 0; i < n; i++) {
                packed = packed << 8 | text.charAt(at + i);
            }
            same("sign", packed, n);
            at += n;
        }
        same("read");
        same("place");
    }

    private void oneCall() {
        switch (random.nextInt(16)) {
            case 0: same("first", 1 + random.nextInt(kinds)); break;
            case 1: same("first", random.nextInt(12) - 1); break;
            case 2: same("priority"); break;
            case 3: same("points"); break;
            case 4: same("kind"); break;
            case 5: same("asked", random.nextInt(45) - 1); break;
            case 6: same("loop", random.nextInt(5) - 1); break;
            case 7: same("never", random.nextInt(5) - 1); break;
            case 8: same("endless", random.nextInt(4) - 1); break;
            case 9: same("word", random.nextInt(questions + 2), random.nextInt(8) - 1 & 1, random.nextInt(15) - 1); break;
            case 10: rare(); break;
            default: answers();
        }
    }

    private void rare() {
        switch (random.nextInt(8)) {
            case 0: same("edition", random.nextInt(11) - 1); break;
            case 1: same("word", random.nextInt(63) - 1, random.nextInt(4) - 1, random.nextInt(3)); break;
            case 2: same("sign", random.nextLong(), random.nextInt(11) - 1); break;
            case 3: same("place"); break;
            case 4: same("answer", random.nextInt()); break;
            case 5: same("asked", random.nextInt()); break;
            case 6: same("read"); break;
            default: same("first", random.nextInt());
        }
    }

    /** Several answers in a row, so that some calls come to forty questions. */
    private void answers() {
        int left = random.nextInt(6) == 0 ? 45 : 1 + random.nextInt(4);
        for (int i = 0; i < left && calls < CALLS; i++) {
            same("answer", random.nextInt(6) - 1);
            if (random.nextInt(3) == 0) {
                same("priority");
            }
        }
    }

    private String rows() {
        StringBuilder text = new StringBuilder();
        int wanted = random.nextInt(9);
        for (int i = 0; i < wanted; i++) {
            String row = random.nextInt(3) == 0 ? kindRow() : questionRow();
            if (text.length() + row.length() <= 400) {
                text.append(blank()).append(row);
            }
        }
        return text.length() <= 400 ? text.toString() : text.substring(0, 400);
    }

    private String questionRow() {
        StringBuilder row = new StringBuilder("q").append(blank()).append(number(1, questions)).append(blank())
            .append(random.nextBoolean() ? "!" : "?").append(blank()).append(span()).append(words());
        if (random.nextInt(3) == 0) {
            row.append(blank()).append(words());
        }
        row.append(blank()).append(":");
        int spanned = random.nextInt(random.nextInt(4) == 0 ? 7 : 3);
        for (int j = 0; j < spanned; j++) {
            row.append(blank()).append(span()).append(jump()).append(blank()).append(",");
        }
        return row.append(jump()).append(blank()).append(";").toString();
    }

    private String span() {
        int low = random.nextInt(5);
        int high = random.nextInt(30) == 0 ? random.nextInt(10) : low + random.nextInt(4);
        return number(low, low) + blank() + "-" + blank() + number(high, high);
    }

    private String words() {
        int length = random.nextInt(40) == 0 ? random.nextInt(2) * 13 : 1 + random.nextInt(random.nextInt(4) == 0 ? 12 : 2);
        StringBuilder words = new StringBuilder("\"");
        for (int i = 0; i < length; i++) {
            char c = (char) (32 + random.nextInt(95));
            words.append(c == '"' ? ' ' : c);
        }
        return words.append("\"").toString();
    }

    private String jump() {
        String points = random.nextInt(3) == 0 ? blank() + "+" + blank() + number(0, random.nextBoolean() ? 9 : 999) : "";
        return blank() + ">" + blank() + number(0, random.nextInt(6) == 0 ? 60 : questions) + points;
    }

    private String kindRow() {
        StringBuilder row = new StringBuilder("k").append(blank()).append(number(1, kinds)).append("=").append(blank())
            .append(number(1, questions)).append(blank()).append(":").append(number(0, 9));
        int conditions = random.nextInt(random.nextInt(5) == 0 ? 8 : 4);
        for (int c = 0; c < conditions; c++) {
            row.append(blank()).append("(").append(term());
            int more = random.nextInt(random.nextInt(5) == 0 ? 5 : 2);
            for (int t = 0; t < more; t++) {
                row.append(blank()).append("&").append(term());
            }
            row.append(":").append(blank()).append(number(0, 9)).append(")");
        }
        return row.append(blank()).append(";").toString();
    }

    private String term() {
        if (random.nextInt(3) == 0) {
            return blank() + "p" + (random.nextBoolean() ? "<" : ">") + blank() + number(0, 40);
        }
        return "q" + blank() + number(1, questions) + "=<>".charAt(random.nextInt(3)) + blank() + number(0, 5);
    }

    /** A number within bounds, but for some that may be without. */
    private String number(int low, int high) {
        if (random.nextInt(200) == 0) {
            return String.valueOf(random.nextInt(random.nextBoolean() ? 100000 : 1100));
        }
        return (random.nextInt(300) == 0 ? "0" : "") + (low + random.nextInt(high - low + 1));
    }

    private String blank() {
        return random.nextInt(12) == 0 ? " " : "";
    }

    private String spoiled(String text) {
        if (text.isEmpty() || random.nextInt(3) != 0) {
            return text;
        }
        int at = random.nextInt(text.length());
        String signs = "qkp!?-\":>+,;=<(&) 0123456789";
        char c = random.nextInt(8) == 0 ? (char) random.nextInt(256) : signs.charAt(random.nextInt(signs.length()));
        switch (random.nextInt(4)) {
            case 0: return text.substring(0, at);
            case 1: return text.substring(0, at) + text.substring(at + 1);
            case 2: return text.substring(0, at) + c + text.substring(at + 1);
            default: return text.length() == 400 ? text : text.substring(0, at) + c + text.substring(at);
        }
    }
}
