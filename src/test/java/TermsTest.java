/** The sentences of the document's section 'Terms' that name a boundary, one test for each, in their order. */
public final class TermsTest {
    private static final String HEAD = "q1!0-1\"a\":";
    private static final String ROW = HEAD + ">0;";
    private static final String KIND = "k1=1:5";
    private static final String TERM = KIND + "(";

    public static void main(String[] args) {
        aTextHasAtMost400Bytes();
        rowsAreEndedByASemicolon();
        blanksMayStandBetweenSigns();
        noBlanksWithinNumbers();
        noBlanksAreLostWithinWords();
        noOtherByteIsABlank();
        numbersHaveOneToFourDigits();
        numbersHaveNo0InFront();
        aQuestionsNumberIs1To60();
        aQuestionMustBeAnsweredOrMayStayUnanswered();
        aSpansSecondNumberIsNotBelow();
        wordsHave1To12Bytes();
        wordsHaveBytes32To126();
        wordsPerhapsInLanguage1();
        aTargetIs0To60();
        pointsAre0To999();
        theLastJumpAloneHasNoSpan();
        jumpsAre1To6();
        aKindsNumberIs1To9();
        aFirstQuestionIs1To60();
        aPriorityIs0To9();
        conditionsAreUpTo6();
        aTermAboutAQuestion();
        aTermAboutThePoints();
        termsAre1To4();
        wrongAtTheFirstByteWhateverFollows();
        wrongAtItsLengthWhenSomethingIsMissing();
        numbersOutOfBoundsAtTheirLastByte();
        toldTwiceAtTheLastByte();
        aSpanNotSoAtTheSecondOnesLastByte();
        anEditionIsWhatWasThereWithTheTextsRows();
        edition0HasNoRows();
        aRightTextMakesAtMost8();
        theNextIsMadeOfTheChosenOne();
        anAnswerIsWithinTheSpan();
        orMinus1WhenItMayStayUnanswered();
        theFirstJumpWhoseSpanHasIt();
        withoutOneTheLast();
        forMinus1TheLast();
        pointsAreAddedAndTheTargetIsAsked();
        aCallEndsWith0();
        aCallEndsWithATargetThatIsNoQuestion();
        aCallAsksAtMost40();
        thePriorityOfTheFirstConditionThatHolds();
        allOfItsTermsHold();
        theLatestAnswerOfAQuestion();
        notAnsweredSoFarDoesNotHold();
        answeredWithMinus1DoesNotHold();
        otherwiseTheKindsPriority();
        reachedAsSomeKindsFirst();
        reachedByAJumpOfOneThatIsReached();
        onALoopByOneOrMoreJumps();
        noEndWhenNoWayGoesTo0OrNoQuestion();
        Run.end();
    }

    private static void aTextHasAtMost400Bytes() {
        String blanks = " ".repeat(400 - ROW.length());
        new Run("400 bytes, right").reads(blanks + ROW, 1);
        new Run("400 bytes, the row in front").reads(ROW + blanks, 1);
        new Run("400 bytes, wrong at the last").wrongAt(" ".repeat(399) + "x", 399);
        new Run("400 bytes, something is missing").wrongAt(" ".repeat(399) + "k", 400);
        new Run("the 401st is refused, the 400 stay").tape(blanks + ROW).due("sign(59, 1)", Run.STATE)
            .due("sign(0, 8)", Run.STATE).due("read()", 1).due("place()", -1);
    }

    private static void rowsAreEndedByASemicolon() {
        new Run("no rows").reads("", 0);
        new Run("one row").reads(ROW, 1);
        new Run("rows").reads(ROW + KIND + ";" + ROW.replace("q1", "q2"), 2);
        new Run("no semicolon").wrong(HEAD + ">0^").wrong(HEAD + ">0^k").wrong(KIND + "^").wrong(KIND + "^q")
            .wrong(ROW + KIND + "^");
        new Run("a semicolon more").wrong(ROW + "^;").wrong(KIND + ";^;").wrong("^;");
    }

    private static void blanksMayStandBetweenSigns() {
        String[] signs = {"q", "12", "?", "0", "-", "10", "\"a b\"", "\"c\"", ":", "3", "-", "4", ">", "12", "+", "5", ",",
            ">", "0", ";", "k", "3", "=", "12", ":", "7", "(", "q", "12", "=", "3", "&", "p", "<", "6", ":", "2", ")",
            "(", "p", ">", "9", ":", "1", ")", ";"};
        for (String between : new String[] {"", " ", "    "}) {
            String text = between + String.join(between, signs) + between;
            new Run("blanks").reads(text, 1).due("first(3)", 12).due("answer(3)", 12).due("priority()", 2)
                .due("points()", 5).due("word(12, 0, 1)", ' ').due("word(12, 1, 0)", 'c').due("answer(-1)", 0);
        }
        for (int i = 0; i <= signs.length; i++) {
            StringBuilder text = new StringBuilder();
            for (int j = 0; j < signs.length; j++) {
                text.append(j == i ? " " : "").append(signs[j]);
            }
            new Run("one blank").reads(text.toString(), 1);
        }
    }

    private static void noBlanksWithinNumbers() {
        new Run("numbers").wrong("q1 ^2!0-1\"a\":>0;").wrong("q1!1 ^0-11").wrong("q1!0-1 ^0\"a\"").wrong(HEAD + "0 ^0-1>0")
            .wrong(HEAD + ">1 ^2;").wrong(HEAD + ">1+1 ^0;").wrong("k1 ^2=").wrong("k1=1 ^2:5;").wrong(KIND + " ^5;")
            .wrong(TERM + "q1 ^2=1").wrong(TERM + "q1=1 ^2:1").wrong(TERM + "p<1 ^2:1").wrong(TERM + "p<1:1 ^2)");
    }

    private static void noBlanksAreLostWithinWords() {
        new Run("words").reads("q1!0-1\" a \"\"  \":>0;", 1).due("word(1, 0, 0)", ' ').due("word(1, 0, 1)", 'a')
            .due("word(1, 0, 2)", ' ').due("word(1, 0, 3)", -1).due("word(1, 1, 1)", ' ').due("word(1, 1, 2)", -1);
    }

    private static void noOtherByteIsABlank() {
        for (char other : new char[] {0, 9, 10, 13, 31, 33, 127, 128, 160, 255}) {
            new Run("byte " + (int) other).wrong("^" + other + ROW).wrong("q^" + other + "1!").wrong(ROW + "^" + other);
        }
    }

    private static void numbersHaveOneToFourDigits() {
        new Run("none").wrong("q^!0-1").wrong("q1!^-1").wrong("q1!0-^\"a\"").wrong(HEAD + ">^;").wrong(HEAD + ">0+^;")
            .wrong(HEAD + "0-^>0").wrong("k^=").wrong("k1=^:").wrong("k1=1:^;").wrong(TERM + "q^=").wrong(TERM + "q1=^:")
            .wrong(TERM + "p>^:").wrong(TERM + "p>1:^)");
        new Run("one to four").reads("q1!0-9\"a\":>0;q2!10-99\"a\":>0;q3!100-999\"a\":>0;q4!1000-9999\"a\":>0;"
            + "k1=1:0;k2=2:0;k3=3:0;k4=4:0;", 4)
            .due("first(1)", 1).due("answer(10)", Run.ARGUMENT).due("answer(9)", 0)
            .due("first(2)", 2).due("answer(9)", Run.ARGUMENT).due("answer(100)", Run.ARGUMENT).due("answer(99)", 0)
            .due("first(3)", 3).due("answer(99)", Run.ARGUMENT).due("answer(1000)", Run.ARGUMENT).due("answer(999)", 0)
            .due("first(4)", 4).due("answer(999)", Run.ARGUMENT).due("answer(10000)", Run.ARGUMENT).due("answer(9999)", 0);
        new Run("five").wrong("q1!1000^0-1").wrong("q1!0-9999^9\"a\"").wrong(HEAD + "1234^5-").wrong(HEAD + "0-1234^5>")
            .wrong(TERM + "q1=1234^5").wrong(TERM + "p<9999^0");
        new Run("out of bounds with the fourth").wrong("q612^34!").wrong("q1!2000-100^05\"a\"").wrong(HEAD + ">0+123^45;");
    }

    private static void numbersHaveNo0InFront() {
        new Run("0 may stand alone").reads("q1!0-0\"a\":0-0>0+0,>0;k1=1:0(q1=0&p<0:0);", 1);
        new Run("0 in front").wrong("q1!0^0-1").wrong("q1!0^1-1").wrong("q1!0-0^0\"").wrong("q1!0-0^1\"")
            .wrong(HEAD + "0^1-1").wrong(HEAD + "0-0^1>").wrong(HEAD + ">0^1;").wrong(HEAD + ">1+0^1;").wrong("k1=1:0^5;")
            .wrong(TERM + "q1=0^1").wrong(TERM + "p>0^1").wrong(TERM + "p>1:0^1)");
        new Run("0 in front where 0 is out of bounds").wrong("q^01!").wrong("k^01=").wrong("k1=^01:").wrong(TERM + "q^01=");
    }

    private static void aQuestionsNumberIs1To60() {
        new Run("1 and 60").reads(ROW, 1).reads(ROW.replace("q1", "q60"), 2).due("word(1, 0, 0)", 'a')
            .due("word(60, 0, 0)", 'a').due("word(59, 0, 0)", Run.ARGUMENT);
        new Run("0").wrong("q^0!0-1\"a\":>0;");
        new Run("61").wrong("q6^1!0-1\"a\":>0;");
    }

    private static void aQuestionMustBeAnsweredOrMayStayUnanswered() {
        new Run("must, may").reads(ROW + ROW.replace("q1!", "q2?") + "k1=1:0;k2=2:0;", 2)
            .due("first(1)", 1).due("answer(-1)", Run.ARGUMENT).due("first(2)", 2).due("answer(-1)", 0);
        new Run("neither").wrong("q10^-1").wrong("q1^.0-1").wrong("q1^\"a\"").wrong("q1^");
        new Run("both").wrong("q1!^?0-1").wrong("q1?^!0-1").wrong("q1!^!").wrong("q1?^?");
    }

    private static void aSpansSecondNumberIsNotBelow() {
        new Run("the same").reads("q1!0-0\"a\":7-7>0,>0;q2!9999-9999\"a\":9999-9999>0,>0;", 2);
        new Run("above").reads("q1!0-9999\"a\":9-10>0,>0;", 1);
        new Run("below").wrong("q1!1-^0\"a\"").wrong("q1!9999-999^8\"a\"").wrong(HEAD + "1-^0>0").wrong(HEAD + "100-9^9>0");
        new Run("no -").wrong("q1!0^\"a\"").wrong("q1!0^>1").wrong(HEAD + "0^>0").wrong(HEAD + "0-1^-2");
    }

    private static void wordsHave1To12Bytes() {
        String twelve = "abcdefghijkl";
        new Run("1").reads("q1!0-1\"x\"\"y\":>0;", 1).due("word(1, 0, 0)", 'x').due("word(1, 0, 1)", -1)
            .due("word(1, 1, 0)", 'y').due("word(1, 1, 1)", -1);
        new Run("12").reads("q1!0-1\"" + twelve + "\"\"" + twelve.toUpperCase() + "\":>0;", 1).due("word(1, 0, 11)", 'l')
            .due("word(1, 0, 12)", -1).due("word(1, 1, 11)", 'L').due("word(1, 1, 12)", -1);
        new Run("0").wrong("q1!0-1\"^\":>0;").wrong("q1!0-1\"a\"\"^\":>0;");
        new Run("13").wrong("q1!0-1\"" + twelve + "^m\":>0;").wrong("q1!0-1\"a\"\"" + twelve + "^m\":>0;")
            .wrong("q1!0-1\"" + twelve + "^ \":>0;");
    }

    private static void wordsHaveBytes32To126() {
        for (char c = 0; c < 256; c++) {
            String text = "q1!0-1\"a" + c + "\"\"" + c + "b\":>0;";
            if (c == '"') {
                new Run("a word's end").wrong("q1!0-1\"a\"\"^\"\"b\":>0;");
            } else if (c >= 32 && c <= 126) {
                new Run("byte " + (int) c).reads(text, 1).due("word(1, 0, 1)", c).due("word(1, 1, 0)", c);
            } else {
                new Run("byte " + (int) c).wrongAt(text, 8).wrongAt("q1!0-1\"a\"\"" + c + "b\":>0;", 10);
            }
        }
    }

    private static void wordsPerhapsInLanguage1() {
        new Run("one").reads("q1!0-1\"abc\":>0;", 1).due("word(1, 1, 2)", 'c').due("word(1, 1, 3)", -1);
        new Run("two").reads("q1!0-1\"abc\"\"de\":>0;", 1).due("word(1, 1, 1)", 'e').due("word(1, 1, 2)", -1)
            .due("word(1, 0, 2)", 'c');
        new Run("none").wrong("q1!0-1^:>0;");
        new Run("three").wrong("q1!0-1\"a\"\"b\"^\"c\":>0;");
    }

    private static void aTargetIs0To60() {
        new Run("0, 1 and 60").reads("q1!0-2\"a\":0-0>0,1-1>1,>60;q60!0-0\"a\":>0;k1=1:0;", 2)
            .due("first(1)", 1).due("answer(1)", 1).due("answer(2)", 60)
            .due("first(1)", 1).due("answer(0)", 0);
        new Run("61").wrong(HEAD + ">6^1;").wrong(HEAD + "0-0>6^1,>0;");
        new Run("none").wrong(HEAD + ">^;").wrong(HEAD + ">^-1;").wrong(HEAD + "0-0>^,>0;");
    }

    private static void pointsAre0To999() {
        new Run("0 and 999").reads("q1!0-2\"a\":0-0>1+0,1-1>1+999,>1;k1=1:0;", 1).due("first(1)", 1)
            .due("answer(0)", 1).due("points()", 0).due("answer(1)", 1).due("points()", 999)
            .due("answer(2)", 1).due("points()", 999);
        new Run("1000").wrong(HEAD + ">0+100^0;").wrong(HEAD + "0-0>0+100^0,>0;");
        new Run("none").wrong(HEAD + ">0+^;").wrong(HEAD + ">0+^-1;").wrong(HEAD + ">0+^+1;");
    }

    private static void theLastJumpAloneHasNoSpan() {
        new Run("so").reads(HEAD + ">0;", 1);
        new Run("so, of two").reads(HEAD + "0-0>0,>0;", 1);
        new Run("the last has one").wrong(HEAD + "0-1>0^;").wrong(HEAD + "0-0>0,1-1>0+5^;");
        new Run("another has none").wrong(HEAD + ">0^,>0;").wrong(HEAD + ">0+1^,0-0>0;").wrong(HEAD + "0-0>0,>0^,>0;");
    }

    private static void jumpsAre1To6() {
        String jump = "0-0>1,";
        new Run("0").wrong(HEAD + "^;");
        for (int spans = 0; spans <= 5; spans++) {
            new Run(spans + 1 + " jumps").reads(HEAD + jump.repeat(spans) + ">1;", 1);
        }
        new Run("7").wrong(HEAD + jump.repeat(5) + "^0-0>1,>1;").wrong(HEAD + jump.repeat(5) + ">1^,>1;");
        new Run("a comma too much").wrong(HEAD + jump + "^;").wrong(HEAD + jump + "^,>0;").wrong(HEAD + "^,>0;");
    }

    private static void aKindsNumberIs1To9() {
        new Run("1 and 9").reads("k1=1:1;k9=1:9;", 0).due("first(1)", 0).due("priority()", 1).due("first(9)", 0)
            .due("priority()", 9).due("first(8)", Run.ARGUMENT);
        new Run("0").wrong("k^0=1:1;");
        new Run("10").wrong("k1^0=1:1;");
    }

    private static void aFirstQuestionIs1To60() {
        new Run("1 and 60").reads(ROW + ROW.replace("q1", "q60") + "k1=1:0;k2=60:0;", 2).due("first(1)", 1).due("first(2)", 60);
        new Run("it may be none").reads("k1=1:0;k2=60:0;", 0).due("first(1)", 0).due("first(2)", 0);
        new Run("0").wrong("k1=^0:1;");
        new Run("61").wrong("k1=6^1:1;");
    }

    private static void aPriorityIs0To9() {
        new Run("0 and 9").reads("k1=1:0(p>0:9);k2=1:9(p<1:0);k3=1:0(p<1:9);", 0).due("first(1)", 0).due("priority()", 0)
            .due("first(2)", 0).due("priority()", 0).due("first(3)", 0).due("priority()", 9);
        new Run("10").wrong("k1=1:1^0;").wrong(KIND + "(p>1:1^0);");
        new Run("none").wrong("k1=1:^;").wrong("k1=1:^(p>1:1);").wrong("k1=1:^-1;").wrong(KIND + "(p>1:^);");
    }

    private static void conditionsAreUpTo6() {
        for (int n = 0; n <= 6; n++) {
            new Run(n + " conditions").reads(KIND + "(p>1:1)".repeat(n) + ";", 0).due("first(1)", 0).due("priority()", 5);
        }
        new Run("the sixth counts").reads(KIND + "(p>1:1)".repeat(5) + "(p<1:6);", 0).due("first(1)", 0).due("priority()", 6);
        new Run("7").wrong(KIND + "(p>1:1)".repeat(6) + "^(p>1:1);");
        new Run("not so").wrong(KIND + "(p>1:1)^,(p>1:1);").wrong(KIND + "^)").wrong(KIND + "(p>1:1^;")
            .wrong(KIND + "(p>1:1^(").wrong(KIND + "(p>1^);").wrong(KIND + "(^(p>1:1));");
    }

    private static void aTermAboutAQuestion() {
        new Run("question 1 and 60").reads(TERM + "q1=0&q60=9999:1);", 0);
        new Run("question 0").wrong(TERM + "q^0=1:1);");
        new Run("question 61").wrong(TERM + "q6^1=1:1);");
        new Run("= < and >").reads(TERM + "q1=1:1)(q1<1:1)(q1>1:1);", 0);
        new Run("another sign").wrong(TERM + "q1^!1:1);").wrong(TERM + "q1^:1);").wrong(TERM + "q1=^=1:1);")
            .wrong(TERM + "q1<^=1:1);").wrong(TERM + "q1^");
        new Run("no number").wrong(TERM + "q1=^-1:1);").wrong(TERM + "q1=^:1);").wrong(TERM + "q1=^q1:1);");
    }

    private static void aTermAboutThePoints() {
        new Run("< and >").reads(TERM + "p<0&p>9999:1);", 0);
        new Run("=").wrong(TERM + "p^=1:1);");
        new Run("a number behind p").wrong(TERM + "p^1<1:1);");
        new Run("no number").wrong(TERM + "p<^-1:1);").wrong(TERM + "p>^:1);").wrong(TERM + "p^");
    }

    private static void termsAre1To4() {
        new Run("0").wrong(TERM + "^:1);").wrong(TERM + "^);");
        for (int n = 1; n <= 4; n++) {
            new Run(n + " terms").reads(TERM + "p<1&".repeat(n - 1) + "p<1:7);", 0).due("first(1)", 0).due("priority()", 7)
                .reads(TERM + "p<1&".repeat(n - 1) + "p>0:7);", 0).due("first(1)", 0).due("priority()", 5);
        }
        new Run("5").wrong(TERM + "p<1&p<1&p<1&p<1^&p<1:7);");
        new Run("an & too much").wrong(TERM + "p<1&^:7);").wrong(TERM + "^&p<1:7);").wrong(TERM + "p<1&^&p<1:7);");
    }

    private static void wrongAtTheFirstByteWhateverFollows() {
        String[] wrong = {"^x", "q^!", "q1^-", "q1!^a", "q1!0^,", "q1!0-^:", "q1!0-1^;", "q1!0-1\"^\"", "q1!0-1\"a\"^>",
            HEAD + "^+", HEAD + "0^>", HEAD + "0-1^,", HEAD + "0-1>^;", HEAD + "0-1>1^;", HEAD + ">1^:", HEAD + ">1+^;",
            ROW + "^:", "k^!", "k1^:", "k1=^:", "k1=1^;", "k1=1:^(", KIND + "^)", TERM + "^)", TERM + "p^=", TERM + "p<1^)",
            TERM + "p<1:^)", TERM + "p<1:1^;", TERM + "p<1:1)^:"};
        String[] tails = {"", ";", " ", "0", "\"", "q1!0-1\"a\":>0;", "\u00ff"};
        for (String text : wrong) {
            Run run = new Run("whatever follows");
            for (String tail : tails) {
                run.wrong(text + tail);
            }
        }
        new Run("the first of two").wrong("q^x!0-y").wrong("q6^1!0-1\"\"").wrong(ROW + "^;x");
    }

    private static void wrongAtItsLengthWhenSomethingIsMissing() {
        String question = "q1!0-1\"ab\"\"cd\":0-0>1+2,>0+3;";
        for (int cut = 1; cut < question.length(); cut++) {
            new Run("question").wrongAt(question.substring(0, cut), cut);
        }
        String kind = "k1=1:5(q1=1&p<3:2)(p>4:1);";
        for (int cut = 1; cut < kind.length(); cut++) {
            new Run("kind").wrongAt(kind.substring(0, cut), cut).wrongAt(ROW + kind.substring(0, cut), ROW.length() + cut);
        }
        new Run("blanks count").wrongAt("q   ", 4).wrongAt(" k1 ", 4).wrongAt(ROW + " q", ROW.length() + 2);
        new Run("nothing is missing").reads("", 0);
    }

    private static void numbersOutOfBoundsAtTheirLastByte() {
        new Run("at the text's end").wrong("q^0").wrong("q6^1").wrong("k^0").wrong("k1^0").wrong("k1=^0").wrong("k1=6^1")
            .wrong("k1=1:1^0").wrong(HEAD + ">6^1").wrong(HEAD + ">0+100^0").wrong(TERM + "q^0").wrong(TERM + "q6^1")
            .wrong(TERM + "p<1:1^0");
        new Run("not at the blanks behind it").wrong("q6^1  !").wrong("k1^0  =").wrong(HEAD + ">6^1  ;");
        new Run("the last of three").wrong("q61^2!").wrong("k10^0=").wrong("k1=99^9:").wrong("k1=1:10^0;")
            .wrong(HEAD + ">10^0;").wrong(TERM + "q99^9=").wrong(TERM + "p<1:12^3)");
        new Run("the last of four").wrong("q612^3!").wrong("k100^0=").wrong(HEAD + ">999^9;").wrong(HEAD + ">0+999^9;");
    }

    private static void toldTwiceAtTheLastByte() {
        new Run("a question").wrong(ROW + "q^1").wrong(ROW + "q^1!0-1").wrong(ROW + " q ^1 !").wrong(ROW + KIND + ";q^1?");
        new Run("one of two digits").wrong(ROW.replace("q1", "q60") + "q6^0").wrong(ROW.replace("q1", "q60") + "q6^0 !0-1");
        new Run("another that begins so").reads(ROW + ROW.replace("q1", "q10") + ROW.replace("q1", "q11"), 3);
        new Run("a kind").wrong(KIND + ";k^1").wrong(KIND + ";k^1=1:5;").wrong(KIND + "; k ^1 =").wrong(KIND + ";" + ROW + "k^1=");
        new Run("a question and a kind").reads(ROW + KIND + ";", 1);
        new Run("out of bounds behind one told").wrong(KIND + ";k1^0").wrong(ROW + "q10^0");
        new Run("in two texts").reads(ROW + KIND + ";", 1).reads(ROW + KIND + ";", 1);
        new Run("the highest in two texts").reads(ROW.replace("q1", "q60") + "k9=1:1;", 1)
            .reads(ROW.replace("q1", "q60") + "k9=1:2;", 1).due("first(9)", 0).due("priority()", 2);
        new Run("behind a text that was wrong").wrong(ROW + KIND + ";^x").reads(ROW + KIND + ";", 1);
    }

    private static void aSpanNotSoAtTheSecondOnesLastByte() {
        new Run("a question's").wrong("q1!3-^2").wrong("q1!3-^2\"a\"").wrong("q1!300-20^0\"a\"").wrong("q1!3 - ^2 \"a\"")
            .wrong("q1!100-9^9").wrong("q1!1-^0\"").wrong("q1!1-^02\"");
        new Run("a jump's").wrong(HEAD + "3-^2>0").wrong(HEAD + "0-0>0,100-9^9>0").wrong(HEAD + "9999-999^8>0");
        new Run("more digits follow").reads("q1!30-200\"a\":9-10>0,>0;", 1);
    }

    private static void anEditionIsWhatWasThereWithTheTextsRows() {
        new Run("rows in place").reads("q1!0-1\"a\"\"b\":>1+1;q2!0-1\"c\":>0;k1=1:5(p>0:6);k2=2:4;", 2)
            .reads("q1?5-6\"d\":>2;k2=1:3;", 2)
            .due("word(1, 0, 0)", 'd').due("word(1, 1, 0)", 'd').due("word(2, 0, 0)", 'c')
            .due("first(1)", 1).due("answer(1)", Run.ARGUMENT).due("answer(5)", 2).due("points()", 0).due("priority()", 5)
            .due("first(2)", 1).due("priority()", 3)
            .due("edition(1)", 2).due("word(1, 1, 0)", 'b').due("first(2)", 2).due("first(1)", 1).due("answer(1)", 1)
            .due("priority()", 6);
        new Run("no rows in the text").reads(ROW + KIND + ";", 1).reads("", 1).due("first(1)", 1).due("answer(1)", 0)
            .due("priority()", 5);
        new Run("all 60 questions, all 9 kinds").reads(rows(1, 20), 20).reads(rows(21, 40), 40).reads(rows(41, 60), 60)
            .reads(kinds(), 60).due("first(9)", 9).due("first(1)", 1).due("word(60, 0, 0)", 'a').row("endless")
            .due("never(0)", 10).due("never(50)", 60).due("never(51)", 0);
    }

    private static String rows(int from, int to) {
        StringBuilder text = new StringBuilder();
        for (int q = from; q <= to; q++) {
            text.append('q').append(q).append("!0-0\"a\":>0;");
        }
        return text.toString();
    }

    private static String kinds() {
        StringBuilder text = new StringBuilder();
        for (int k = 1; k <= 9; k++) {
            text.append('k').append(k).append('=').append(k).append(":0;");
        }
        return text.toString();
    }

    private static void edition0HasNoRows() {
        new Run("0").due("edition(0)", 0).due("first(1)", Run.ARGUMENT).due("word(1, 0, 0)", Run.ARGUMENT)
            .reads(ROW + KIND + ";", 1).due("edition(0)", 0).due("first(1)", Run.ARGUMENT).due("word(1, 0, 0)", Run.ARGUMENT)
            .row("loop").row("never").row("endless");
    }

    private static void aRightTextMakesAtMost8() {
        Run run = new Run("8");
        for (int e = 1; e <= 8; e++) {
            run.reads("q" + e + "!0-0\"a\":>0;", e).due("edition(" + e + ")", e).due("edition(" + (e + 1) + ")", Run.ARGUMENT);
        }
        run.due("read()", Run.STATE).due("edition(9)", Run.ARGUMENT).due("edition(0)", 0)
            .tape(ROW).due("read()", Run.STATE).due("word(1, 0, 0)", Run.ARGUMENT);
        for (int e = 0; e <= 8; e++) {
            run.due("edition(" + e + ")", e);
        }
        new Run("a wrong text makes none").wrong("^x").due("edition(1)", Run.ARGUMENT).reads(ROW, 1).due("edition(1)", 1)
            .due("edition(2)", Run.ARGUMENT);
    }

    private static void theNextIsMadeOfTheChosenOne() {
        new Run("of the chosen one, and it is chosen").reads(ROW, 1).due("edition(0)", 0)
            .reads(ROW.replace("q1", "q2") + ROW.replace("q1", "q3"), 2).due("word(1, 0, 0)", Run.ARGUMENT)
            .due("edition(1)", 1).reads(ROW.replace("q1", "q4"), 2).due("word(4, 0, 0)", 'a').due("word(1, 0, 0)", 'a')
            .due("word(2, 0, 0)", Run.ARGUMENT).reads("", 2).due("edition(4)", 2).due("edition(2)", 2).due("word(4, 0, 0)", Run.ARGUMENT);
    }

    private static void anAnswerIsWithinTheSpan() {
        new Run("span").reads("q1!5-7\"a\":>1;k1=1:0;", 1).due("first(1)", 1).due("answer(4)", Run.ARGUMENT)
            .due("answer(5)", 1).due("answer(6)", 1).due("answer(7)", 1).due("answer(8)", Run.ARGUMENT)
            .due("answer(2147483647)", Run.ARGUMENT).due("answer(-2147483648)", Run.ARGUMENT);
        new Run("one number").reads("q1!9999-9999\"a\":>1;k1=1:0;", 1).due("first(1)", 1).due("answer(9998)", Run.ARGUMENT)
            .due("answer(9999)", 1).due("answer(10000)", Run.ARGUMENT).due("answer(0)", Run.ARGUMENT);
        new Run("0").reads("q1?0-0\"a\":>1;k1=1:0;", 1).due("first(1)", 1).due("answer(0)", 1).due("answer(1)", Run.ARGUMENT)
            .due("answer(-2)", Run.ARGUMENT);
    }

    private static void orMinus1WhenItMayStayUnanswered() {
        new Run("may").reads("q1?5-7\"a\":>1;k1=1:0;", 1).due("first(1)", 1).due("answer(-1)", 1).due("answer(-2)", Run.ARGUMENT)
            .due("answer(0)", Run.ARGUMENT).row("asked", 1, 1);
        new Run("must").reads("q1!0-7\"a\":>1;k1=1:0;", 1).due("first(1)", 1).due("answer(-1)", Run.ARGUMENT).row("asked", 1);
    }

    private static void theFirstJumpWhoseSpanHasIt() {
        new Run("spans").reads("q1!0-9\"a\":3-5>1+1,5-7>1+10,0-9>1+100,>0;k1=1:0;", 1).due("first(1)", 1)
            .due("answer(2)", 1).due("points()", 100).due("answer(3)", 1).due("points()", 101)
            .due("answer(5)", 1).due("points()", 102).due("answer(6)", 1).due("points()", 112)
            .due("answer(7)", 1).due("points()", 122).due("answer(8)", 1).due("points()", 222);
    }

    private static void withoutOneTheLast() {
        new Run("without").reads("q1!0-9\"a\":3-3>0,5-5>0,7-20>0,>1+2;k1=1:0;", 1).due("first(1)", 1).due("answer(2)", 1)
            .due("answer(4)", 1).due("answer(6)", 1).due("points()", 6).due("answer(7)", 0);
        new Run("the only one").reads("q1!0-9\"a\":>1+2;k1=1:0;", 1).due("first(1)", 1).due("answer(9)", 1).due("points()", 2);
    }

    private static void forMinus1TheLast() {
        new Run("-1").reads("q1?0-9\"a\":0-9999>0+1,0-9>0+1,>2+5;q2?0-0\"b\":>1+7;k1=1:0;", 2).due("first(1)", 1)
            .due("answer(-1)", 2).due("points()", 5).due("answer(-1)", 1).due("points()", 12).due("answer(9)", 0)
            .due("points()", 13);
    }

    private static void pointsAreAddedAndTheTargetIsAsked() {
        new Run("added").reads("q1!0-0\"a\":>2+999;q2!0-0\"a\":>1+999;k1=1:0;", 2).due("first(1)", 1).due("points()", 0)
            .due("answer(0)", 2).due("points()", 999).due("answer(0)", 1).due("points()", 1998).row("asked", 1, 2, 1);
    }

    private static void aCallEndsWith0() {
        new Run("0").reads("q1!0-0\"a\":>0+4;k1=1:3;", 1).due("first(1)", 1).due("answer(0)", 0).due("answer(0)", Run.STATE)
            .due("kind()", 1).due("points()", 4).due("priority()", 3).row("asked", 1);
    }

    private static void aCallEndsWithATargetThatIsNoQuestion() {
        new Run("no question").reads("q1!0-0\"a\":>2+4;k1=1:3;", 1).due("first(1)", 1).due("answer(0)", 0)
            .due("answer(0)", Run.STATE).due("points()", 4).row("asked", 1)
            .reads("q2!0-0\"a\":>60;", 2).due("first(1)", 1).due("answer(0)", 2).due("answer(0)", 0).row("asked", 1, 2);
    }

    private static void aCallAsksAtMost40() {
        Run run = new Run("40").reads("q1!0-1\"a\":0-0>1+1,>0+2;k1=1:0;", 1).due("first(1)", 1);
        for (int asked = 2; asked <= 40; asked++) {
            run.due("answer(0)", 1);
        }
        run.due("asked(39)", 1).due("answer(0)", Run.STATE).due("asked(40)", 0).due("points()", 39)
            .due("answer(1)", 0).due("points()", 41).due("asked(39)", 1).due("asked(40)", 0);
    }

    private static void thePriorityOfTheFirstConditionThatHolds() {
        new Run("first").reads("q1!0-9\"a\":>1;k1=1:9(q1>5:1)(q1>3:2)(q1<9:3);", 1).due("first(1)", 1)
            .due("answer(6)", 1).due("priority()", 1).due("answer(5)", 1).due("priority()", 2)
            .due("answer(4)", 1).due("priority()", 2).due("answer(3)", 1).due("priority()", 3)
            .due("answer(9)", 1).due("priority()", 1);
    }

    private static void allOfItsTermsHold() {
        new Run("all").reads("q1!0-9\"a\":>1+1;k1=1:9(q1>1&q1<5&p>1&p<4:2);", 1).due("first(1)", 1)
            .due("answer(2)", 1).due("priority()", 9).due("answer(2)", 1).due("priority()", 2)
            .due("answer(1)", 1).due("priority()", 9).due("answer(4)", 1).due("priority()", 9)
            .due("first(1)", 1).due("answer(3)", 1).due("answer(5)", 1).due("priority()", 9)
            .due("answer(4)", 1).due("priority()", 2);
        new Run("about question 60").reads("q60!0-9\"a\":>60;k1=60:9(q60=7:1)(q60<1:2);", 1).due("first(1)", 60)
            .due("priority()", 9).due("answer(7)", 60).due("priority()", 1).due("answer(0)", 60).due("priority()", 2)
            .due("first(1)", 60).due("priority()", 9);
        new Run("the bounds of <, = and >").reads("q1!0-9999\"a\":>1;k1=1:0(q1<1:1)(q1>9998:2)(q1=9998:3);", 1)
            .due("first(1)", 1).due("answer(0)", 1).due("priority()", 1).due("answer(1)", 1).due("priority()", 0)
            .due("answer(9999)", 1).due("priority()", 2).due("answer(9998)", 1).due("priority()", 3)
            .due("answer(9997)", 1).due("priority()", 0);
    }

    private static void theLatestAnswerOfAQuestion() {
        new Run("latest").reads("q1!0-9\"a\":>2;q2!0-9\"b\":>1;k1=1:9(q1=3:1)(q1=4:2);", 2).due("first(1)", 1)
            .due("answer(3)", 2).due("priority()", 1).due("answer(4)", 1).due("priority()", 1)
            .due("answer(4)", 2).due("priority()", 2).due("answer(3)", 1).due("answer(5)", 2).due("priority()", 9);
    }

    private static void notAnsweredSoFarDoesNotHold() {
        new Run("not answered").reads("q1!0-9\"a\":>2;q2!0-9\"b\":>1;k1=1:9(q1<9999:1)(q2<9999:2)(q3<9999:3);", 2)
            .due("first(1)", 1).due("priority()", 9).due("answer(0)", 2).due("priority()", 1)
            .due("first(1)", 1).due("priority()", 9);
        new Run("by an earlier call").reads("q1!0-9\"a\":>0;q2!0-9\"b\":>0;k1=1:9(q1=5:1);k2=2:8(q1=5:1);", 2)
            .due("first(1)", 1).due("answer(5)", 0).due("priority()", 1).due("first(2)", 2).due("priority()", 8)
            .due("first(1)", 1).due("priority()", 9);
        new Run("refused").reads("q1!0-9\"a\":>1;k1=1:9(q1>9:1)(q1<9999:2);", 1).due("first(1)", 1)
            .due("answer(10)", Run.ARGUMENT).due("priority()", 9);
    }

    private static void answeredWithMinus1DoesNotHold() {
        new Run("-1").reads("q1?0-9\"a\":>1;k1=1:9(q1<9999:1)(q1=0:2)(q1>0:3);", 1).due("first(1)", 1)
            .due("answer(-1)", 1).due("priority()", 9).due("answer(0)", 1).due("priority()", 1)
            .due("answer(-1)", 1).due("priority()", 9);
    }

    private static void otherwiseTheKindsPriority() {
        new Run("none holds").reads("q1!0-9\"a\":>1;k1=1:4(q1>5:1)(p>0:2);k2=1:0;", 1).due("first(1)", 1).due("priority()", 4)
            .due("answer(5)", 1).due("priority()", 4).due("first(2)", 1).due("priority()", 0);
    }

    private static void reachedAsSomeKindsFirst() {
        new Run("first").reads(rows(1, 4) + "k1=2:0;k9=4:0;", 4).row("never", 1, 3);
        new Run("no kind").reads(rows(1, 2), 2).row("never", 1, 2);
    }

    private static void reachedByAJumpOfOneThatIsReached() {
        new Run("jumps").reads("q1!0-0\"a\":5-5>3,>0;q2!0-0\"a\":>4;q3!0-0\"a\":>5;q4!0-0\"a\":>2;q5!0-0\"a\":>1;k1=1:0;", 5)
            .row("never", 2, 4);
        new Run("by itself is not reached").reads("q1!0-0\"a\":>1;", 1).row("never", 1);
    }

    private static void onALoopByOneOrMoreJumps() {
        new Run("one").reads("q1!0-0\"a\":>1;", 1).row("loop", 1);
        new Run("two").reads("q1!0-0\"a\":>2;q2!0-0\"a\":>1;", 2).row("loop", 1, 2);
        new Run("none").reads("q1!0-0\"a\":>2;q2!0-0\"a\":>0;", 2).row("loop");
        new Run("to a loop is not on it").reads("q1!0-0\"a\":>2;q2!0-0\"a\":>2;", 2).row("loop", 2);
        new Run("from a loop is not on it").reads("q1!0-0\"a\":0-0>1,>2;q2!0-0\"a\":>0;", 2).row("loop", 1);
        new Run("not reached").reads("q1!0-0\"a\":>1;q2!0-0\"a\":>0;k1=2:0;", 2).row("loop", 1);
        Run all = new Run("all 60").reads(ring(1, 20), 20).reads(ring(21, 40), 40).row("loop").reads(ring(41, 60), 60);
        for (int i = 0; i < 60; i++) {
            all.due("loop(" + i + ")", i + 1);
        }
        all.due("loop(60)", 0);
    }

    /** Each question leads to the next one, the 60th to the first. */
    private static String ring(int from, int to) {
        StringBuilder text = new StringBuilder();
        for (int q = from; q <= to; q++) {
            text.append('q').append(q).append("!0-0\"a\":>").append(q % 60 + 1).append(';');
        }
        return text.toString();
    }

    private static void noEndWhenNoWayGoesTo0OrNoQuestion() {
        new Run("to 0").reads("q1!0-0\"a\":0-0>1,>0;q2!0-0\"a\":>2;k1=1:0;k2=2:0;", 2).row("endless", 2);
        new Run("to no question").reads("q1!0-0\"a\":0-0>1,>3;q2!0-0\"a\":>2;k1=1:0;k2=2:0;", 2).row("endless", 2);
        new Run("over another").reads("q1!0-0\"a\":0-0>1,>2;q2!0-0\"a\":0-0>1,>0;k1=1:0;", 2).row("endless");
        new Run("by its first question alone").reads("q1!0-0\"a\":>1;q2!0-0\"a\":0-0>1,>0;k1=1:0;k2=2:0;", 2).row("endless", 1);
        new Run("its first question is none").reads("q1!0-0\"a\":>1;k1=2:0;", 1).row("endless");
        new Run("all 9").reads("q1!0-0\"a\":>1;" + kinds().replaceAll("=\\d", "=1"), 1).row("endless", 1, 2, 3, 4, 5, 6, 7, 8, 9);
    }
}
