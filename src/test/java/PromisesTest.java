import java.util.Arrays;

/** The sentences of the document's promises 1 to 15 that name a boundary, one test for each, in their order. */
public final class PromisesTest {
    private static final String LEAST = "-2147483648";
    private static final String MOST = "2147483647";
    /** Question 1 asks itself for 0, goes to 2 for 1, and ends for 2 and above. */
    private static final String ROWS = "q1?0-9\"one\"\"un\":0-0>1+1,1-1>2+10,>0+100;q2!3-4\"two\":>1;k1=1:5(q1=1:3)(p>99:2);";

    public static void main(String[] args) {
        usedForAtMost512Calls();
        aNewObjectHasEdition0();
        aNewObjectHasNoCall();
        signTakes1To8Bytes();
        signTakesTheLowestTheHighestFirst();
        signAnswersHowMany();
        signRefusesAnotherN();
        signRefusesMoreThan400();
        signLooksAtNFirst();
        readUsesTheTapeUp();
        readAnswersHowManyQuestions();
        readEndsTheCall();
        readEndsTheCallAlsoWhenItThrows();
        readRefusesAWrongText();
        readRefusesANinthEdition();
        placeOfAWrongText();
        placeOfARightText();
        placeWithoutAText();
        editionAnswersHowManyQuestions();
        editionEndsTheCall();
        editionRefusesWhatThereIsNot();
        firstBeginsACall();
        firstIs0WhenThatIsNone();
        firstRefusesWhatIsNoKindOfTheEdition();
        answerIsTheNextQuestion();
        answerIs0WhenTheCallHasEnded();
        answerIsRefusedWhenNoQuestionIsAsked();
        answerIsRefusedWhenItIsNotSo();
        answerIsRefusedWhen40WereAsked();
        aRefusedAnswerChangesNothing();
        kindIsTheCalls();
        kindIs0WhenThereIsNoCall();
        priorityIsTheCalls();
        priorityIsRefusedWithoutACall();
        pointsAreTheCalls();
        pointsAreRefusedWithoutACall();
        askedInOrder();
        askedIs0WhenThereAreNotSoMany();
        askedRefusesBelow0();
        loopByNumbers();
        loopIs0WhenThereAreNotSoMany();
        neverByNumbers();
        neverIs0WhenThereAreNotSoMany();
        endlessByNumbers();
        endlessIs0WhenThereAreNotSoMany();
        loopNeverAndEndlessRefuseBelow0();
        wordIsAByte();
        wordOfLanguage0WhenThereIsNoneOf1();
        wordIsMinus1BehindThem();
        wordRefusesWhatIsNoQuestionOfTheEdition();
        wordRefusesAnotherLanguage();
        wordRefusesBelow0();
        Run.end();
    }

    /** What there is to see without a call. */
    private static Run noCall(Run run) {
        return run.due("kind()", 0).due("priority()", Run.STATE).due("points()", Run.STATE).due("answer(0)", Run.STATE)
            .due("answer(-1)", Run.STATE).due("answer(" + MOST + ")", Run.STATE).due("asked(0)", 0);
    }

    private static Run withEightEditions(String name) {
        Run run = new Run(name).reads(ROWS, 2);
        for (int e = 2; e <= 8; e++) {
            run.reads("", 2);
        }
        return run;
    }

    private static void usedForAtMost512Calls() {
        Run reads = new Run("512 reads");
        for (int call = 1; call <= 512; call++) {
            reads.due("read()", call <= 8 ? "0" : Run.STATE);
        }
        Run walked = new Run("512 answers");
        walked.reads("q1!0-9\"a\":0-0>1+9,>1+9;k1=1:0;", 1);
        for (int begun = 0; begun < 11; begun++) {
            walked.due("first(1)", 1);
            for (int asked = 2; asked <= 40; asked++) {
                walked.due("answer(" + asked % 8 + ")", 1);
            }
            walked.due("answer(0)", Run.STATE).due("points()", 39 * 9);
        }
        walked.row("asked", filled(40)).due("kind()", 1).due("priority()", 0);
    }

    private static int[] filled(int n) {
        int[] ones = new int[n];
        Arrays.fill(ones, 1);
        return ones;
    }

    private static long packed(String text) {
        long bytes = 0;
        for (char c : text.toCharArray()) {
            bytes = bytes << 8 | c;
        }
        return bytes;
    }

    private static void aNewObjectHasEdition0() {
        new Run("edition 0").due("first(1)", Run.ARGUMENT).due("word(1, 0, 0)", Run.ARGUMENT).due("loop(0)", 0)
            .due("never(0)", 0).due("endless(0)", 0).due("edition(1)", Run.ARGUMENT).due("edition(0)", 0);
    }

    private static void aNewObjectHasNoCall() {
        noCall(new Run("no call"));
        new Run("objects apart").reads(ROWS, 2).due("first(1)", 1);
        noCall(new Run("a later object")).due("edition(1)", Run.ARGUMENT).due("sign(0, 1)", 1);
    }

    private static void signTakes1To8Bytes() {
        String text = "k1=2:345";
        for (int n = 1; n <= 8; n++) {
            // Wrong at its last byte, or something is missing behind it: the place tells how many bytes there were.
            new Run(n + " bytes").due("sign(" + packed(text.substring(0, n)) + ", " + n + ")", n)
                .due("read()", Run.ARGUMENT).due("place()", n < 7 ? n : n - 1);
        }
    }

    private static void signTakesTheLowestTheHighestFirst() {
        new Run("the lowest").due("sign(" + packed("xk1=1:5;") + ", 7)", 7).due("read()", 0).due("first(1)", 0)
            .due("priority()", 5);
        new Run("the lowest one").due("sign(" + packed("xxxxxxx ") + ", 1)", 1).due("read()", 0).due("place()", -1);
        new Run("the highest first").due("sign(" + packed("k1=1") + ", 4)", 4).due("sign(" + packed(":7;") + ", 3)", 7)
            .due("read()", 0).due("first(1)", 0).due("priority()", 7);
        // Bytes above 127, also as the highest of a negative long.
        new Run("a negative long").due("sign(" + (0xffL << 56 | packed("1=1:5; ")) + ", 8)", 8).due("read()", Run.ARGUMENT)
            .due("place()", 0);
        new Run("above what is taken").due("sign(" + (0xffL << 56 | packed("k1=1:5;")) + ", 7)", 7).due("read()", 0)
            .due("place()", -1);
        new Run("a byte above 127 in the middle").due("sign(" + (packed("k") << 16 | 0xb13dL) + ", 3)", 3)
            .due("read()", Run.ARGUMENT).due("place()", 1);
    }

    private static void signAnswersHowMany() {
        Run run = new Run("how many");
        int many = 0;
        for (int n = 1; n <= 8; n++) {
            many += n;
            run.due("sign(0, " + n + ")", many);
        }
    }

    private static void signRefusesAnotherN() {
        new Run("n").due("sign(32, 0)", Run.ARGUMENT).due("sign(32, 9)", Run.ARGUMENT).due("sign(32, -1)", Run.ARGUMENT)
            .due("sign(32, " + MOST + ")", Run.ARGUMENT).due("sign(32, " + LEAST + ")", Run.ARGUMENT)
            .due("sign(32, -8)", Run.ARGUMENT).due("sign(32, 257)", Run.ARGUMENT).due("sign(32, 1)", 1);
    }

    private static void signRefusesMoreThan400() {
        for (int n = 1; n <= 8; n++) {
            Run run = new Run("393 and " + n).tape(" ".repeat(393));
            String call = "sign(" + packed("k1=1:58;".substring(8 - n)) + ", " + n + ")";
            if (n == 8) {
                run.due(call, Run.STATE).due("sign(" + packed("k2=1:4;") + ", 7)", 400).due("read()", 0)
                    .due("first(2)", 0).due("first(1)", Run.ARGUMENT);
            } else {
                run.due(call, 393 + n);
            }
        }
        new Run("400 and 1").tape(" ".repeat(400)).due("sign(32, 1)", Run.STATE).due("sign(32, 1)", Run.STATE)
            .due("read()", 0).due("sign(32, 1)", 1);
    }

    private static void signLooksAtNFirst() {
        new Run("full").tape(" ".repeat(400)).due("sign(32, 0)", Run.ARGUMENT).due("sign(32, 9)", Run.ARGUMENT)
            .due("sign(32, -1)", Run.ARGUMENT).due("sign(32, " + MOST + ")", Run.ARGUMENT).due("sign(32, 8)", Run.STATE);
    }

    private static void readUsesTheTapeUp() {
        new Run("a right text").reads(ROWS, 2).due("sign(32, 1)", 1);
        new Run("a wrong text").wrong("q1!0-1\"a\":>0;^x").due("sign(32, 1)", 1).due("read()", 0);
        withEightEditions("eight editions").tape("k2=1:1;").due("read()", Run.STATE).due("sign(32, 1)", 1);
        String whole = "q12!1-20\"ab\"\"cd\":1-12>12+34,>0;k1=12:5(q12=15&p<34:2);";
        for (int cut = 1; cut < whole.length(); cut++) {
            if (!whole.substring(0, cut).endsWith(";")) {
                // What was on the tape behind the cut has been used up: it does not help.
                new Run("the rest of an earlier text").reads(whole, 1).tape(whole.substring(0, cut))
                    .due("read()", Run.ARGUMENT).due("place()", cut);
            }
        }
    }

    private static void readAnswersHowManyQuestions() {
        new Run("none").reads("", 0).reads("k1=1:5;", 0);
        new Run("all of the edition's").reads(ROWS, 2).reads("q60!0-0\"a\":>0;", 3).reads("q1!0-0\"a\":>0;", 3)
            .reads("k2=1:1;", 3).reads("", 3);
    }

    private static void readEndsTheCall() {
        noCall(new Run("a right text").reads(ROWS, 2).due("first(1)", 1).due("answer(0)", 1).reads("", 2)).row("asked");
        noCall(new Run("behind an ended call").reads(ROWS, 2).due("first(1)", 1).due("answer(2)", 0).reads("", 2)).row("asked");
    }

    private static void readEndsTheCallAlsoWhenItThrows() {
        noCall(new Run("a wrong text").reads(ROWS, 2).due("first(1)", 1).due("answer(0)", 1).wrong("^x")).row("asked")
            .due("first(1)", 1).due("points()", 0);
        noCall(withEightEditions("eight editions").due("first(1)", 1).due("answer(0)", 1).due("read()", Run.STATE)).row("asked")
            .due("first(1)", 1).due("points()", 0);
    }

    private static void readRefusesAWrongText() {
        new Run("nothing is made or chosen").reads(ROWS, 2).due("edition(0)", 0).wrong(ROWS + "^;").due("edition(2)", Run.ARGUMENT)
            .due("word(1, 0, 0)", Run.ARGUMENT).due("first(1)", Run.ARGUMENT).due("edition(1)", 2);
        withEightEditions("also when there are 8").wrong("^x").due("edition(8)", 2).due("edition(9)", Run.ARGUMENT);
    }

    private static void readRefusesANinthEdition() {
        withEightEditions("eight").due("edition(3)", 2).tape("q3!0-0\"a\":>0;k3=1:1;").due("read()", Run.STATE)
            .due("place()", -1).due("word(3, 0, 0)", Run.ARGUMENT).due("first(3)", Run.ARGUMENT).due("first(1)", 1)
            .due("edition(9)", Run.ARGUMENT).due("edition(8)", 2);
        withEightEditions("place() is -1 then").wrong("q^x").due("read()", Run.STATE).due("place()", -1);
        withEightEditions("from edition 0, too").due("edition(0)", 0).due("read()", Run.STATE).due("first(1)", Run.ARGUMENT);
    }

    private static void placeOfAWrongText() {
        new Run("the first byte").wrong("^x");
        new Run("its length").wrong("q^");
        new Run("the latest text's").wrong("q^x").wrong("^x").wrong("k1^").due("place()", 2);
        new Run("no other call changes it").reads(ROWS, 2).wrong("q^x").due("sign(32, 1)", 1).due("place()", 1)
            .due("first(1)", 1).due("place()", 1).due("answer(0)", 1).due("place()", 1).due("edition(0)", 0).due("place()", 1)
            .due("edition(9)", Run.ARGUMENT).due("sign(32, 9)", Run.ARGUMENT).due("place()", 1);
    }

    private static void placeOfARightText() {
        new Run("right").reads(ROWS, 2).due("place()", -1);
        new Run("right behind a wrong one").wrong("q^x").reads("", 0).due("place()", -1);
    }

    private static void placeWithoutAText() {
        new Run("none").due("place()", -1).due("sign(120, 1)", 1).due("place()", -1).due("edition(0)", 0).due("place()", -1);
    }

    private static void editionAnswersHowManyQuestions() {
        new Run("editions").reads(ROWS, 2).reads("q9!0-0\"a\":>0;", 3).due("edition(0)", 0).due("edition(1)", 2)
            .due("edition(2)", 3).due("edition(2)", 3);
    }

    private static void editionEndsTheCall() {
        noCall(new Run("another").reads(ROWS, 2).due("first(1)", 1).due("answer(0)", 1).due("edition(0)", 0)).row("asked");
        noCall(new Run("the same").reads(ROWS, 2).due("first(1)", 1).due("answer(0)", 1).due("edition(1)", 2)).row("asked")
            .due("first(1)", 1).due("points()", 0);
    }

    private static void editionRefusesWhatThereIsNot() {
        new Run("none such").reads(ROWS, 2).due("first(1)", 1).due("edition(2)", Run.ARGUMENT).due("edition(-1)", Run.ARGUMENT)
            .due("edition(8)", Run.ARGUMENT).due("edition(9)", Run.ARGUMENT).due("edition(" + MOST + ")", Run.ARGUMENT)
            .due("edition(" + LEAST + ")", Run.ARGUMENT).due("kind()", 1).due("answer(1)", 2).row("asked", 1, 2);
        withEightEditions("behind the eighth").due("edition(8)", 2).due("edition(9)", Run.ARGUMENT);
    }

    private static void firstBeginsACall() {
        new Run("anew").reads(ROWS, 2).due("first(1)", 1).due("answer(1)", 2).due("points()", 10).due("priority()", 3)
            .due("first(1)", 1).due("points()", 0).due("priority()", 5).row("asked", 1).due("kind()", 1);
    }

    private static void firstIs0WhenThatIsNone() {
        new Run("none").reads("k2=60:4(p<1:8);k3=1:3(q1=0:2);", 0).due("first(2)", 0).due("kind()", 2).due("priority()", 8)
            .due("points()", 0).row("asked").due("answer(0)", Run.STATE).due("answer(-1)", Run.STATE)
            .due("first(3)", 0).due("kind()", 3).due("priority()", 3)
            .reads("q60!0-0\"a\":>0;", 1).due("first(2)", 60).row("asked", 60).due("first(3)", 0).row("asked");
    }

    private static void firstRefusesWhatIsNoKindOfTheEdition() {
        new Run("no such kind").reads(ROWS, 2).due("first(2)", Run.ARGUMENT).due("first(0)", Run.ARGUMENT)
            .due("first(9)", Run.ARGUMENT).due("first(10)", Run.ARGUMENT).due("first(-1)", Run.ARGUMENT)
            .due("first(" + MOST + ")", Run.ARGUMENT).due("first(" + LEAST + ")", Run.ARGUMENT).due("kind()", 0);
        new Run("the call goes on").reads(ROWS, 2).due("first(1)", 1).due("answer(1)", 2).due("first(2)", Run.ARGUMENT)
            .due("kind()", 1).due("points()", 10).row("asked", 1, 2).due("answer(3)", 1);
        new Run("of another edition").reads(ROWS, 2).due("edition(0)", 0).due("first(1)", Run.ARGUMENT);
    }

    private static void answerIsTheNextQuestion() {
        new Run("next").reads(ROWS, 2).due("first(1)", 1).due("answer(0)", 1).due("answer(1)", 2).due("answer(3)", 1);
    }

    private static void answerIs0WhenTheCallHasEnded() {
        new Run("ended").reads(ROWS, 2).due("first(1)", 1).due("answer(9)", 0).due("kind()", 1).due("points()", 100)
            .due("priority()", 2).row("asked", 1);
        new Run("by -1").reads(ROWS, 2).due("first(1)", 1).due("answer(-1)", 0).due("points()", 100);
    }

    private static void answerIsRefusedWhenNoQuestionIsAsked() {
        String[] answers = {"answer(0)", "answer(-1)", "answer(99)", "answer(" + MOST + ")", "answer(" + LEAST + ")"};
        Run none = new Run("no call").reads(ROWS, 2);
        Run ended = new Run("ended").reads(ROWS, 2).due("first(1)", 1).due("answer(9)", 0);
        Run atOnce = new Run("ended at once").reads("k1=1:0;", 0).due("first(1)", 0);
        Run over = new Run("over").reads(ROWS, 2).due("first(1)", 1).due("edition(1)", 2);
        for (String answer : answers) {
            none.due(answer, Run.STATE);
            ended.due(answer, Run.STATE);
            atOnce.due(answer, Run.STATE);
            over.due(answer, Run.STATE);
        }
    }

    private static void answerIsRefusedWhenItIsNotSo() {
        new Run("below, above, -1").reads(ROWS, 2).due("first(1)", 1).due("answer(10)", Run.ARGUMENT)
            .due("answer(-2)", Run.ARGUMENT).due("answer(1)", 2).due("answer(2)", Run.ARGUMENT).due("answer(5)", Run.ARGUMENT)
            .due("answer(-1)", Run.ARGUMENT).due("answer(" + MOST + ")", Run.ARGUMENT)
            .due("answer(" + LEAST + ")", Run.ARGUMENT).due("answer(4)", 1);
    }

    private static Run withFortyAsked(String name) {
        Run run = new Run(name).reads(ROWS, 2).due("first(1)", 1);
        for (int asked = 2; asked <= 40; asked++) {
            run.due("answer(0)", 1);
        }
        return run;
    }

    private static void answerIsRefusedWhen40WereAsked() {
        withFortyAsked("one more").due("answer(0)", Run.STATE).due("answer(1)", Run.STATE);
        withFortyAsked("it is not so").due("answer(10)", Run.ARGUMENT).due("answer(-2)", Run.ARGUMENT);
        withFortyAsked("it leads to the end").due("answer(2)", 0).due("points()", 139).due("answer(10)", Run.STATE);
        withFortyAsked("-1 leads to the end").due("answer(-1)", 0).due("points()", 139);
        withFortyAsked("a call anew").due("first(1)", 1).due("answer(0)", 1).row("asked", 1, 1);
        Run none = new Run("it leads to no question").reads("q1!0-1\"a\":0-0>1,>60;k1=1:0;", 1).due("first(1)", 1);
        for (int asked = 2; asked <= 40; asked++) {
            none.due("answer(0)", 1);
        }
        none.due("answer(0)", Run.STATE).due("answer(1)", 0).row("asked", filled(40));
    }

    private static void aRefusedAnswerChangesNothing() {
        new Run("not so").reads(ROWS, 2).due("first(1)", 1).due("answer(1)", 2).due("answer(9)", Run.ARGUMENT)
            .due("points()", 10).due("priority()", 3).due("kind()", 1).row("asked", 1, 2).due("answer(3)", 1);
        withFortyAsked("40 were asked").due("answer(1)", Run.STATE).due("points()", 39).due("priority()", 5).due("kind()", 1)
            .row("asked", filled(40)).due("answer(2)", 0).due("points()", 139);
        new Run("no question is asked").reads(ROWS, 2).due("first(1)", 1).due("answer(9)", 0).due("answer(1)", Run.STATE)
            .due("points()", 100).due("priority()", 2).row("asked", 1);
    }

    private static void kindIsTheCalls() {
        new Run("1 and 9").reads("q1!0-0\"a\":>0;k1=1:0;k9=1:0;", 1).due("first(1)", 1).due("kind()", 1).due("first(9)", 1)
            .due("kind()", 9).due("answer(0)", 0).due("kind()", 9);
    }

    private static void kindIs0WhenThereIsNoCall() {
        new Run("no call").due("kind()", 0).reads(ROWS, 2).due("kind()", 0).due("first(1)", 1).due("edition(1)", 2)
            .due("kind()", 0).due("first(1)", 1).due("read()", 2).due("kind()", 0).due("first(1)", 1).wrong("^x").due("kind()", 0);
    }

    private static void priorityIsTheCalls() {
        new Run("while it goes on and behind its end").reads(ROWS, 2).due("first(1)", 1).due("priority()", 5)
            .due("answer(1)", 2).due("priority()", 3).due("answer(3)", 1).due("priority()", 3)
            .due("answer(9)", 0).due("priority()", 2);
    }

    private static void priorityIsRefusedWithoutACall() {
        new Run("no call").due("priority()", Run.STATE).reads(ROWS, 2).due("priority()", Run.STATE).due("first(1)", 1)
            .due("edition(1)", 2).due("priority()", Run.STATE).due("first(1)", 1).wrong("^x").due("priority()", Run.STATE);
    }

    private static void pointsAreTheCalls() {
        new Run("from 0").reads(ROWS, 2).due("first(1)", 1).due("points()", 0).due("answer(0)", 1).due("points()", 1)
            .due("answer(2)", 0).due("points()", 101);
        Run most = new Run("the most that a call can have").reads("q1!0-1\"a\":0-0>1+999,>0+999;k1=1:1(p>9999:2);", 1)
            .due("first(1)", 1);
        for (int asked = 2; asked <= 40; asked++) {
            most.due("answer(0)", 1).due("points()", 999 * (asked - 1)).due("priority()", asked > 11 ? 2 : 1);
        }
        most.due("answer(1)", 0).due("points()", 39960);
    }

    private static void pointsAreRefusedWithoutACall() {
        new Run("no call").due("points()", Run.STATE).reads(ROWS, 2).due("points()", Run.STATE).due("first(1)", 1)
            .due("edition(1)", 2).due("points()", Run.STATE).due("first(1)", 1).wrong("^x").due("points()", Run.STATE);
    }

    private static void askedInOrder() {
        new Run("with the one that is asked now").reads(ROWS, 2).due("first(1)", 1).row("asked", 1).due("answer(1)", 2)
            .row("asked", 1, 2).due("answer(3)", 1).due("answer(0)", 1).row("asked", 1, 2, 1, 1).due("answer(9)", 0)
            .row("asked", 1, 2, 1, 1);
    }

    private static void askedIs0WhenThereAreNotSoMany() {
        new Run("none").due("asked(0)", 0).due("asked(" + MOST + ")", 0).reads(ROWS, 2).due("first(1)", 1).due("asked(0)", 1)
            .due("asked(1)", 0).due("asked(39)", 0).due("asked(40)", 0).due("asked(" + MOST + ")", 0);
        withFortyAsked("forty").due("asked(39)", 1).due("asked(40)", 0).due("asked(" + MOST + ")", 0)
            .due("first(1)", 1).due("asked(1)", 0).due("asked(39)", 0);
    }

    private static void askedRefusesBelow0() {
        new Run("below 0").due("asked(-1)", Run.ARGUMENT).due("asked(" + LEAST + ")", Run.ARGUMENT).reads(ROWS, 2)
            .due("first(1)", 1).due("asked(-1)", Run.ARGUMENT).due("asked(0)", 1);
    }

    private static void loopByNumbers() {
        new Run("by numbers").reads("q60!0-0\"a\":>60;q9!0-0\"a\":>2;q2!0-0\"a\":>9;q1!0-0\"a\":>1;q5!0-0\"a\":>1;", 5)
            .due("loop(0)", 1).due("loop(1)", 2).due("loop(2)", 9).due("loop(3)", 60).due("loop(0)", 1);
    }

    private static void loopIs0WhenThereAreNotSoMany() {
        new Run("no rows").due("loop(0)", 0).due("loop(" + MOST + ")", 0);
        new Run("one").reads("q60!0-0\"a\":>60;", 1).due("loop(0)", 60).due("loop(1)", 0).due("loop(60)", 0)
            .due("loop(" + MOST + ")", 0).due("edition(0)", 0).due("loop(0)", 0);
    }

    private static void neverByNumbers() {
        new Run("by numbers").reads("q60!0-0\"a\":>60;q9!0-0\"a\":>2;q2!0-0\"a\":>0;q1!0-0\"a\":>1;k1=2:0;", 4)
            .due("never(0)", 1).due("never(1)", 9).due("never(2)", 60).due("never(3)", 0).due("never(0)", 1);
    }

    private static void neverIs0WhenThereAreNotSoMany() {
        new Run("no rows").due("never(0)", 0).due("never(" + MOST + ")", 0);
        new Run("one").reads("q60!0-0\"a\":>0;", 1).due("never(0)", 60).due("never(1)", 0).due("never(60)", 0)
            .due("never(" + MOST + ")", 0).reads("k1=60:0;", 1).due("never(0)", 0);
    }

    private static void endlessByNumbers() {
        new Run("by numbers").reads("q1!0-0\"a\":>1;q2!0-0\"a\":>0;k9=1:0;k3=1:0;k5=2:0;k1=1:0;", 2)
            .due("endless(0)", 1).due("endless(1)", 3).due("endless(2)", 9).due("endless(3)", 0).due("endless(0)", 1);
    }

    private static void endlessIs0WhenThereAreNotSoMany() {
        new Run("no rows").due("endless(0)", 0).due("endless(" + MOST + ")", 0);
        new Run("one").reads("q1!0-0\"a\":>1;k9=1:0;", 1).due("endless(0)", 9).due("endless(1)", 0).due("endless(9)", 0)
            .due("endless(" + MOST + ")", 0).reads("q1!0-0\"a\":>2;", 1).due("endless(0)", 0);
    }

    private static void loopNeverAndEndlessRefuseBelow0() {
        for (String method : new String[] {"loop", "never", "endless"}) {
            new Run(method).due(method + "(-1)", Run.ARGUMENT).due(method + "(" + LEAST + ")", Run.ARGUMENT)
                .reads("q1!0-0\"a\":>1;q2!0-0\"a\":>2;k1=1:0;", 2).due(method + "(-1)", Run.ARGUMENT)
                .due(method + "(" + LEAST + ")", Run.ARGUMENT).due(method + "(0)", method.equals("never") ? 2 : 1);
        }
    }

    private static void wordIsAByte() {
        new Run("bytes").reads(ROWS, 2).due("word(1, 0, 0)", 'o').due("word(1, 0, 1)", 'n').due("word(1, 0, 2)", 'e')
            .due("word(1, 1, 0)", 'u').due("word(1, 1, 1)", 'n').due("word(2, 0, 0)", 't');
    }

    private static void wordOfLanguage0WhenThereIsNoneOf1() {
        new Run("none of 1").reads(ROWS, 2).due("word(2, 1, 0)", 't').due("word(2, 1, 1)", 'w').due("word(2, 1, 2)", 'o')
            .due("word(2, 1, 3)", -1);
    }

    private static void wordIsMinus1BehindThem() {
        new Run("behind").reads(ROWS, 2).due("word(1, 0, 3)", -1).due("word(1, 1, 2)", -1).due("word(1, 0, 12)", -1)
            .due("word(1, 0, " + MOST + ")", -1).due("word(2, 1, " + MOST + ")", -1);
    }

    private static void wordRefusesWhatIsNoQuestionOfTheEdition() {
        new Run("no such question").due("word(1, 0, 0)", Run.ARGUMENT).reads(ROWS, 2).due("word(3, 0, 0)", Run.ARGUMENT)
            .due("word(0, 0, 0)", Run.ARGUMENT).due("word(60, 0, 0)", Run.ARGUMENT).due("word(61, 0, 0)", Run.ARGUMENT)
            .due("word(-1, 0, 0)", Run.ARGUMENT).due("word(" + MOST + ", 0, 0)", Run.ARGUMENT)
            .due("word(" + LEAST + ", 0, 0)", Run.ARGUMENT).due("edition(0)", 0).due("word(1, 0, 0)", Run.ARGUMENT);
    }

    private static void wordRefusesAnotherLanguage() {
        new Run("language").reads(ROWS, 2).due("word(1, 2, 0)", Run.ARGUMENT).due("word(1, -1, 0)", Run.ARGUMENT)
            .due("word(1, " + MOST + ", 0)", Run.ARGUMENT).due("word(1, " + LEAST + ", 0)", Run.ARGUMENT)
            .due("word(1, 2, 99)", Run.ARGUMENT).due("word(1, 1, 0)", 'u');
    }

    private static void wordRefusesBelow0() {
        new Run("i").reads(ROWS, 2).due("word(1, 0, -1)", Run.ARGUMENT).due("word(1, 1, -1)", Run.ARGUMENT)
            .due("word(2, 1, " + LEAST + ")", Run.ARGUMENT).due("word(1, 0, 0)", 'o');
    }
}
