/** Promises 1 and 2: a new object, and sign. */
public final class TapeTest {
    public static void main(String[] args) {
        newObject();
        howMany();
        lowestBytesHighestFirst();
        refusals();
        full();
        usedUp();
        Run.end();
    }

    private static void newObject() {
        new Run("new").due("kind()", 0).due("place()", -1)
            .due("priority()", Run.STATE).due("points()", Run.STATE)
            .due("answer(0)", Run.STATE).due("answer(-1)", Run.STATE)
            .row("asked").row("loop").row("never").row("endless")
            .due("first(1)", Run.ARGUMENT).due("word(1, 0, 0)", Run.ARGUMENT)
            .due("edition(1)", Run.ARGUMENT).due("edition(0)", 0);
    }

    private static void howMany() {
        new Run("how many").due("sign(0, 1)", 1).due("sign(-1, 8)", 9).due("sign(7, 3)", 12).due("sign(7, 1)", 13);
    }

    private static void lowestBytesHighestFirst() {
        // "k1=1:5;" is seven bytes; the byte above them is not taken.
        long text = 0;
        for (char c : "Xk1=1:5;".toCharArray()) {
            text = text << 8 | c;
        }
        new Run("lowest").due("sign(" + text + ", 7)", 7).due("read()", 0).due("place()", -1).due("first(1)", 0);
        new Run("all eight").due("sign(" + text + ", 8)", 8).due("read()", Run.ARGUMENT).due("place()", 0);
        new Run("negative").due("sign(-1, 1)", 1).due("read()", Run.ARGUMENT).due("place()", 0);
    }

    private static void refusals() {
        new Run("refused n").due("sign(1, 0)", Run.ARGUMENT).due("sign(1, 9)", Run.ARGUMENT)
            .due("sign(1, -1)", Run.ARGUMENT).due("sign(1, 2147483647)", Run.ARGUMENT)
            .due("sign(1, -2147483648)", Run.ARGUMENT).due("sign(1, 1)", 1);
    }

    private static void full() {
        Run run = new Run("full");
        for (int i = 1; i <= 49; i++) {
            run.due("sign(2314885530818453536, 8)", 8 * i);
        }
        run.due("sign(8224, 2)", 394)
            .due("sign(0, 7)", Run.STATE).due("sign(0, 8)", Run.STATE).due("sign(0, 9)", Run.ARGUMENT)
            .due("sign(35322350018592, 6)", 400)
            .due("sign(0, 1)", Run.STATE).due("sign(0, 0)", Run.ARGUMENT)
            .due("read()", 0).due("place()", -1).due("sign(0, 1)", 1);
    }

    private static void usedUp() {
        new Run("used up by a right text").reads("k1=1:5;", 0).due("sign(0, 2)", 2);
        new Run("used up by a wrong text").wrongAt("k1=1:5", 6).due("sign(0, 2)", 2);
        new Run("nothing left").wrongAt("x", 0).due("read()", 0).due("place()", -1);
    }
}
