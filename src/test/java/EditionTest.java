/** Promise 5, and the part of promise 3 that makes editions. */
public final class EditionTest {
    private static final String ONE = "q1!0-3\"one\"\"un\":>2+1;k1=1:5(p>0:6);";

    public static void main(String[] args) {
        rowsInPlace();
        madeOfTheChosen();
        atMostEight();
        callIsOver();
        refused();
        Run.end();
    }

    private static void rowsInPlace() {
        new Run("rows in place").reads(ONE, 1).reads("q2!0-0\"two\":>0;k2=2:1;", 2)
            .due("first(1)", 1).due("answer(3)", 2).due("priority()", 6).due("answer(0)", 0)
            .reads("q1?0-0\"x\":>0+7;", 2)
            .due("word(1, 0, 0)", 'x').due("word(1, 0, 1)", -1).due("word(1, 1, 0)", 'x').due("word(2, 1, 0)", 't')
            .due("first(1)", 1).due("answer(3)", Run.ARGUMENT).due("answer(-1)", 0).due("points()", 7).due("priority()", 6)
            .reads("k1=2:3;", 2).due("first(1)", 2).due("answer(0)", 0).due("priority()", 3)
            .due("edition(1)", 1).due("word(1, 1, 0)", 'u').due("first(2)", Run.ARGUMENT)
            .due("first(1)", 1).due("answer(3)", 0).due("points()", 1).due("priority()", 6)
            .due("edition(2)", 2).due("first(1)", 1).due("answer(3)", 2);
    }

    private static void madeOfTheChosen() {
        new Run("of the chosen one").reads(ONE, 1).due("edition(0)", 0).reads("q3!0-0\"three\":>0;", 1)
            .due("word(1, 0, 0)", Run.ARGUMENT).due("first(1)", Run.ARGUMENT).due("word(3, 0, 0)", 't')
            .due("edition(1)", 1).reads("q4!0-0\"four\":>0;", 2).due("word(3, 0, 0)", Run.ARGUMENT).due("word(1, 0, 0)", 'o')
            .due("edition(2)", 1).due("edition(3)", 2).due("edition(4)", Run.ARGUMENT);
    }

    private static void atMostEight() {
        Run run = new Run("eight");
        for (int e = 1; e <= 8; e++) {
            run.due("edition(" + e + ")", Run.ARGUMENT).reads("q" + e + "!0-0\"a\":>0;", e);
        }
        run.due("edition(8)", 8).due("edition(9)", Run.ARGUMENT).due("edition(3)", 3)
            .tape("q9!0-0\"a\":>0;").due("read()", Run.STATE).due("place()", -1)
            .due("never(2)", 3).due("never(3)", 0).due("sign(120, 1)", 1)
            .due("read()", Run.ARGUMENT).due("place()", 0).due("edition(9)", Run.ARGUMENT)
            .due("read()", Run.STATE).due("place()", -1)
            .tape("k1=1:1;").due("read()", Run.STATE).due("first(1)", Run.ARGUMENT);
    }

    private static void callIsOver() {
        new Run("over by edition").reads(ONE, 1).due("first(1)", 1).due("edition(1)", 1).due("kind()", 0)
            .due("asked(0)", 0).due("points()", Run.STATE).due("priority()", Run.STATE).due("answer(0)", Run.STATE);
        Run full = new Run("over by a refused read").reads(ONE, 1);
        for (int e = 2; e <= 8; e++) {
            full.reads("", 1);
        }
        full.due("first(1)", 1).due("read()", Run.STATE).due("kind()", 0).due("asked(0)", 0)
            .due("answer(0)", Run.STATE).due("first(1)", 1);
    }

    private static void refused() {
        new Run("refused").reads(ONE, 1).due("first(1)", 1)
            .due("edition(2)", Run.ARGUMENT).due("edition(-1)", Run.ARGUMENT)
            .due("edition(2147483647)", Run.ARGUMENT).due("edition(-2147483648)", Run.ARGUMENT)
            .due("kind()", 1).due("asked(0)", 1).due("answer(1)", 0);
    }
}
