import java.nio.charset.StandardCharsets;
import java.util.ArrayList;
import java.util.List;

/** A run of calls, written as in the issues, on one new object; counts the answers that are not as due. */
final class Run {
    static final String ARGUMENT = "throws.IllegalArgumentException";
    static final String STATE = "throws.IllegalStateException";

    /** What an object answers behind these is free, so that no test may ask it. */
    private static final int CALLS_OF_ONE_OBJECT = 512;

    private static int calls = 0;
    private static int wrong = 0;

    private final String name;
    private final QuestionText object = new QuestionText();
    private int own = 0;

    Run(String name) {
        this.name = name;
    }

    /** Puts a text on the tape, eight bytes at a time; none of these calls may be refused. */
    Run tape(String text) {
        byte[] bytes = text.getBytes(StandardCharsets.ISO_8859_1);
        for (int at = 0; at < bytes.length; at += 8) {
            int n = Math.min(8, bytes.length - at);
            long packed = 0;
            for (int i = 0; i < n; i++) {
                packed = packed << 8 | bytes[at + i] & 255;
            }
            String got = answerOf("sign(" + packed + ", " + n + ")");
            if (got.startsWith("throws")) {
                note("sign of " + text, got, "no throw");
            }
        }
        return this;
    }

    Run reads(String text, int questions) {
        return tape(text).due("read()", questions).due("place()", -1);
    }

    Run wrongAt(String text, int place) {
        tape(text);
        String got = answerOf("read()");
        note("read() of '" + text + "'", got, ARGUMENT);
        String told = answerOf("place()");
        note("place() of '" + text + "'", told, String.valueOf(place));
        return this;
    }

    /** A text with a ^ before the byte at which it is wrong, or behind it when something is missing. */
    Run wrong(String marked) {
        int place = marked.indexOf('^');
        return wrongAt(marked.substring(0, place) + marked.substring(place + 1), place);
    }

    Run due(String call, int want) {
        note(call, answerOf(call), String.valueOf(want));
        return this;
    }

    Run due(String call, String want) {
        note(call, answerOf(call), want);
        return this;
    }

    /** Answers to call(0), call(1) and so on; behind the wanted ones comes 0. */
    Run row(String call, int... wanted) {
        for (int i = 0; i < wanted.length; i++) {
            due(call + "(" + i + ")", wanted[i]);
        }
        due(call + "(" + wanted.length + ")", 0);
        return due(call + "(" + Integer.MAX_VALUE + ")", 0);
    }

    String answerOf(String call) {
        calls++;
        own++;
        if (own > CALLS_OF_ONE_OBJECT) {
            note("call " + own, "more than may be asked", "at most " + CALLS_OF_ONE_OBJECT);
        }
        try {
            return String.valueOf(called(call));
        } catch (RuntimeException e) {
            return "throws." + e.getClass().getSimpleName();
        }
    }

    private int called(String call) {
        String method = call.substring(0, call.indexOf('('));
        List<Long> given = new ArrayList<>();
        for (String part : call.substring(call.indexOf('(') + 1, call.length() - 1).split(",")) {
            if (!part.isBlank()) {
                given.add(Long.parseLong(part.trim()));
            }
        }
        switch (method) {
            case "sign": return object.sign(given.get(0), given.get(1).intValue());
            case "read": return object.read();
            case "place": return object.place();
            case "edition": return object.edition(given.get(0).intValue());
            case "first": return object.first(given.get(0).intValue());
            case "answer": return object.answer(given.get(0).intValue());
            case "kind": return object.kind();
            case "priority": return object.priority();
            case "points": return object.points();
            case "asked": return object.asked(given.get(0).intValue());
            case "loop": return object.loop(given.get(0).intValue());
            case "never": return object.never(given.get(0).intValue());
            case "endless": return object.endless(given.get(0).intValue());
            case "word":
                return object.word(given.get(0).intValue(), given.get(1).intValue(), given.get(2).intValue());
            default: throw new UnsupportedOperationException(call);
        }
    }

    private void note(String call, String got, String want) {
        if (!got.equals(want)) {
            wrong++;
            System.out.println(name + ": " + call + " answered " + got + ", due is " + want);
        }
    }

    /** Ends a test: with exit code 1 when an answer was not as due. */
    static void end() {
        System.out.println(wrong == 0 ? calls + " calls, all answers are as due" : wrong + " answers are not as due");
        if (wrong != 0) {
            System.exit(1);
        }
    }
}
