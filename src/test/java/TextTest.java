/** Promises 3 and 4: read, and place; the grammar and where a text is wrong. */
public final class TextTest {
    private static final String HEAD = "q1!0-1\"a\":";
    private static final String WHOLE = HEAD + ">0;";
    private static final String KIND = "k1=1:5";

    public static void main(String[] args) {
        rightTexts();
        missing();
        rowsBegin();
        numbers();
        questionHeads();
        words();
        jumps();
        kinds();
        conditions();
        toldTwice();
        placeAndCall();
        Run.end();
    }

    private static void rightTexts() {
        new Run("empty").reads("", 0).due("edition(1)", 0);
        new Run("blank").reads("   ", 0);
        new Run("one").reads(WHOLE, 1);
        new Run("blanks").reads("  q 60  ! 0 -  9999 \"a\"  \"b c\" : 0 - 0 > 60 + 999 , > 0 + 0 ; "
            + "k 9 = 60 : 0 ( q 60 = 0 & p < 9999 : 9 ) ( p > 0 : 0 ) ; ", 1);
        new Run("may").reads("q1?0-0\"a\":>0;", 1);
        new Run("sixty").reads("q60!9999-9999\" !#~\"\"b\":9999-9999>60+999,>60;", 1);
        new Run("a jump's span may leave the question's").reads("q1!5-6\"a\":0-4>2,7-9999>3,>0;", 1);
        new Run("six jumps").reads(HEAD + "0-0>1,0-0>1,0-0>1,0-0>1,0-0>1,>1;", 1);
        new Run("six conditions").reads(KIND + "(p>1:1)(p>1:1)(p>1:1)(p>1:1)(p>1:1)(p>1:1);", 0);
        new Run("four terms").reads(KIND + "(q1=1&q60>0&p<3&q9<1:2);", 0);
        new Run("kind before question").reads("k1=1:5;" + WHOLE, 1);
        new Run("400 bytes").reads(" ".repeat(400 - WHOLE.length()) + WHOLE, 1);
        new Run("as many as one text can hold").reads(shortestRows(29), 29);
    }

    private static String shortestRows(int n) {
        StringBuilder text = new StringBuilder();
        for (int q = 1; q <= n; q++) {
            text.append("q").append(q).append("!0-0\"a\":>0;");
        }
        return text.toString();
    }

    private static void missing() {
        String all = "q1!0-1\"a\"\"b\":0-0>1+2,>0;k1=1:5(q1=1&p<3:2);";
        for (int cut = 1; cut < all.length(); cut++) {
            String text = all.substring(0, cut);
            if (text.endsWith(">0;")) {
                new Run("not missing").reads(text, 1);
            } else {
                new Run("missing").wrongAt(text, cut);
            }
        }
        new Run("missing behind blanks").wrongAt("q  ", 3).wrongAt(WHOLE + "k1 ", WHOLE.length() + 3);
        new Run("missing at 400").wrongAt(" ".repeat(399) + "q", 400);
    }

    private static void rowsBegin() {
        new Run("rows").wrongAt("x", 0).wrongAt(";", 0).wrongAt(" ;", 1).wrongAt("Q1", 0).wrongAt("\t", 0)
            .wrongAt(WHOLE + ";", WHOLE.length()).wrongAt(WHOLE + "p", WHOLE.length())
            .wrongAt("\0", 0).wrongAt("\u00ff", 0).wrongAt("\u00ff\u00ff", 0).wrongAt("1", 0);
    }

    private static void numbers() {
        new Run("no digit").wrongAt("q!", 1).wrongAt("q-1", 1).wrongAt("q a", 2);
        new Run("0 in front").wrongAt("q01", 1).wrongAt("q1!00-1", 4).wrongAt("q1!01-1", 4)
            .wrongAt("q1!0-01", 6).wrongAt(HEAD + ">00", 12).wrongAt(HEAD + ">0+00", 14).wrongAt(KIND.replace('5', '0') + "0", 6);
        new Run("blanks within").wrongAt("q1 2!", 3).wrongAt("q1!1 0-11", 5);
        new Run("five digits").wrongAt("q1!12345", 7).wrongAt("q1!0-12345", 9).wrongAt(KIND + "(p<12345", 13);
        new Run("bounds").wrongAt("q0", 1).wrongAt("q61", 2).wrongAt("q0!", 1).wrongAt("q61!", 2).wrongAt("q99 ", 2)
            .wrongAt("k0", 1).wrongAt("k10", 2).wrongAt(HEAD + ">61;", 12).wrongAt(HEAD + ">0+1000;", 16)
            .wrongAt("k1=0", 3).wrongAt("k1=61", 4).wrongAt("k1=1:10", 6)
            .wrongAt(KIND + "(q0", 8).wrongAt(KIND + "(q61", 9).wrongAt(KIND + "(p<1:10", 12);
        new Run("last byte of a longer one").wrongAt("q612!", 3).wrongAt("q6123", 4).wrongAt("q100", 3)
            .wrongAt("k123", 3).wrongAt(HEAD + ">999", 13).wrongAt("k1=1:999", 7);
        new Run("a number has four digits at most").wrongAt("q61234", 4).wrongAt(HEAD + ">0+12345", 16);
        new Run("spans").wrongAt("q1!3-2", 5).wrongAt("q1!10-9\"", 6).wrongAt("q1!35-20", 7).wrongAt("q1!5-03", 5)
            .wrongAt(HEAD + "5-4>", 12).wrongAt(HEAD + "50-49>0", 14).reads("q1!35-200\"a\":5-5>0,>0;", 1);
    }

    private static void questionHeads() {
        new Run("heads").wrongAt("q1x", 2).wrongAt("q1;", 2).wrongAt("q1!!", 3).wrongAt("q1!?", 3)
            .wrongAt("q1!1;", 4).wrongAt("q1!1>", 4).wrongAt("q1!1-x", 5).wrongAt("q1!0-1:", 6).wrongAt("q1!0-1;", 6)
            .wrongAt("q1!0-1\"a\";", 9).wrongAt("q1!0-1\"a\">", 9);
    }

    private static void words() {
        new Run("empty words").wrongAt("q1!0-1\"\"", 7).wrongAt("q1!0-1\"a\"\"\"", 10);
        new Run("13 bytes").wrongAt("q1!0-1\"abcdefghijklm\"", 19).wrongAt("q1!0-1\"abcdefghijkl \"", 19)
            .wrongAt("q1!0-1\"             \"", 19).wrongAt("q1!0-1\"a\"\"abcdefghijklm\"", 22);
        new Run("12 bytes").reads("q1!0-1\"abcdefghijkl\"\"            \":>0;", 1).due("word(1, 0, 11)", 'l')
            .due("word(1, 0, 12)", -1).due("word(1, 1, 11)", ' ').due("word(1, 1, 12)", -1);
        new Run("bytes").wrongAt("q1!0-1\"a\u007f", 8).wrongAt("q1!0-1\"\u001f", 7).wrongAt("q1!0-1\"a\u00ff", 8)
            .wrongAt("q1!0-1\"\0", 7).wrongAt("q1!0-1\"\t\"", 7).reads("q1!0-1\" ~\":>0;", 1);
        new Run("three words").wrongAt("q1!0-1\"a\"\"b\"\"c\"", 12);
        new Run("unclosed").wrongAt("q1!0-1\"ab", 9).wrongAt("q1!0-1\"abcdefghijkl", 19);
        new Run("unclosed, with an earlier text's bytes behind it").wrongAt(" ".repeat(9) + "\"", 9).wrongAt("q1!0-1\"ab", 9)
            .wrongAt("x22222222", 0).wrongAt("q1!0-", 5).wrongAt("q1!0-1", 6).wrongAt("q", 1);
        new Run("unclosed at 400").wrongAt(" ".repeat(391) + "q1!0-1\"ab", 400);
        new Run("signs in words").reads("q1!0-1\";:,>+k1=\"\"q2!0-1\":>0;", 1).due("word(1, 0, 0)", ';');
    }

    private static void jumps() {
        new Run("last has no span").wrongAt(HEAD + "0-1>0;", 15).wrongAt(HEAD + "0-1>0+1;", 17).wrongAt(HEAD + ">0,>1;", 12)
            .wrongAt(HEAD + ">0+1,", 14).wrongAt(HEAD + "0-0>0,;", 16).wrongAt(HEAD + ";", 10);
        new Run("parts").wrongAt(HEAD + "0>1", 11).wrongAt(HEAD + "0-1-", 13).wrongAt(HEAD + "0-1+", 13)
            .wrongAt(HEAD + ">x", 11).wrongAt(HEAD + ">+", 11).wrongAt(HEAD + ">0+x", 13).wrongAt(HEAD + ">0+1+", 14)
            .wrongAt(HEAD + ",", 10).wrongAt(HEAD + ">0:", 12);
        new Run("seven").wrongAt(HEAD + "0-0>1,0-0>1,0-0>1,0-0>1,0-0>1,0-0>1,>1;", 40)
            .wrongAt(HEAD + "0-0>1,0-0>1,0-0>1,0-0>1,0-0>1,>1,>1;", 42);
    }

    private static void kinds() {
        new Run("kinds").wrongAt("k1:", 2).wrongAt("k1=;", 3).wrongAt("k1=1;", 4).wrongAt("k1=1=", 4).wrongAt("k1=1:;", 5)
            .wrongAt(KIND + ":", 6).wrongAt(KIND + "p", 6).wrongAt(KIND + ",", 6);
    }

    private static void conditions() {
        new Run("conditions").wrongAt(KIND + "()", 7).wrongAt(KIND + "(:", 7).wrongAt(KIND + "(k", 7).wrongAt(KIND + "(1", 7)
            .wrongAt(KIND + "(p=1:2);", 8).wrongAt(KIND + "(p1", 8).wrongAt(KIND + "(q1!", 9).wrongAt(KIND + "(q1:", 9)
            .wrongAt(KIND + "(q=", 8).wrongAt(KIND + "(q1==", 10).wrongAt(KIND + "(q1=1)", 11).wrongAt(KIND + "(q1=1;", 11)
            .wrongAt(KIND + "(q1=1:1;", 13).wrongAt(KIND + "(q1=1:1&", 13).wrongAt(KIND + "(q1=1&)", 12)
            .wrongAt(KIND + "(q1=1:1),", 14).wrongAt(KIND + "(q1=-1", 10);
        new Run("five terms").wrongAt(KIND + "(q1=1&q1>0&p<3&q9<1&p>1:2);", 25);
        new Run("seven conditions").wrongAt(KIND + "(p>1:1)".repeat(7) + ";", 48);
    }

    private static void toldTwice() {
        int n = WHOLE.length();
        new Run("questions").wrongAt(WHOLE + "q1", n + 1).wrongAt(WHOLE + "q1?", n + 1).wrongAt(WHOLE + "q 1 ?", n + 2)
            .wrongAt(WHOLE + "k1=1:1;q1!", n + 8).wrongAt(WHOLE.replace("q1", "q12") + "q12 ", n + 3)
            .reads(WHOLE + WHOLE.replace("q1", "q10"), 2);
        new Run("kinds").wrongAt("k1=1:5;k1", 8).wrongAt("k1=1:5; k 1 =", 10).reads("k1=1:5;k2=1:5;", 0);
        new Run("again in a later text").reads(WHOLE, 1).reads(WHOLE, 1).reads(KIND + ";", 1).reads(KIND + ";", 1);
        new Run("not by a wrong text").wrongAt(WHOLE + "x", n).reads(WHOLE, 1);
    }

    private static void placeAndCall() {
        new Run("place is the latest text's").wrongAt("qx", 1).due("place()", 1).due("sign(1, 1)", 1).due("place()", 1)
            .due("edition(0)", 0).due("place()", 1).due("read()", Run.ARGUMENT).due("place()", 0).reads("", 0);
        new Run("a wrong text ends the call").reads(WHOLE + KIND + ";", 1).due("first(1)", 1).wrongAt("x", 0)
            .due("kind()", 0).due("asked(0)", 0).due("points()", Run.STATE).due("priority()", Run.STATE)
            .due("answer(0)", Run.STATE).due("first(1)", 1);
        new Run("a right text ends the call").reads(WHOLE + KIND + ";", 1).due("first(1)", 1).reads("", 1)
            .due("kind()", 0).due("asked(0)", 0).due("points()", Run.STATE).due("answer(0)", Run.STATE);
        new Run("a wrong text changes no rows").reads(WHOLE + KIND + ";", 1)
            .wrongAt("q2!0-0\"a\":>0;x", 13).due("word(2, 0, 0)", Run.ARGUMENT).due("first(1)", 1)
            .due("edition(2)", Run.ARGUMENT).reads("", 1).due("word(2, 0, 0)", Run.ARGUMENT);
    }
}
