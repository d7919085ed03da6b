/** Promises 6, 7, 8, 10 and 11: first, answer, kind, points and asked. */
public final class CallTest {
    public static void main(String[] args) {
        begins();
        beginsWithNone();
        answers();
        firstJumpThatHasIt();
        ends();
        atMostForty();
        points();
        asked();
        Run.end();
    }

    private static void begins() {
        new Run("first").reads("q1!0-0\"a\":>0;q7!2-3\"b\":>1;k1=1:5;k9=7:0;", 2)
            .due("kind()", 0).due("first(9)", 7).due("kind()", 9).due("asked(0)", 7).due("points()", 0).due("priority()", 0)
            .due("first(1)", 1).due("kind()", 1).row("asked", 1)
            .due("first(2)", Run.ARGUMENT).due("first(0)", Run.ARGUMENT).due("first(10)", Run.ARGUMENT)
            .due("first(-1)", Run.ARGUMENT).due("first(2147483647)", Run.ARGUMENT).due("first(-2147483648)", Run.ARGUMENT)
            .due("kind()", 1).row("asked", 1).due("answer(0)", 0);
    }

    private static void beginsWithNone() {
        new Run("no first question").reads("k2=60:4(p<1:8);k3=1:3(q1=0:2);", 0)
            .due("first(2)", 0).due("kind()", 2).due("priority()", 8).due("points()", 0).row("asked")
            .due("answer(0)", Run.STATE).due("answer(-1)", Run.STATE)
            .due("first(3)", 0).due("kind()", 3).due("priority()", 3);
    }

    private static void answers() {
        new Run("span").reads("q1!2-5\"a\":>1;q2?2-5\"a\":>2;q3?0-9999\"a\":>3;k1=1:0;k2=2:0;k3=3:0;", 3)
            .due("first(1)", 1).due("answer(1)", Run.ARGUMENT).due("answer(6)", Run.ARGUMENT).due("answer(-1)", Run.ARGUMENT)
            .due("answer(0)", Run.ARGUMENT).due("answer(-2147483648)", Run.ARGUMENT).due("answer(2147483647)", Run.ARGUMENT)
            .row("asked", 1).due("answer(2)", 1).due("answer(5)", 1).row("asked", 1, 1, 1)
            .due("first(2)", 2).due("answer(-1)", 2).due("answer(-2)", Run.ARGUMENT).due("answer(1)", Run.ARGUMENT)
            .due("answer(6)", Run.ARGUMENT).due("answer(2)", 2).due("answer(5)", 2)
            .due("first(3)", 3).due("answer(0)", 3).due("answer(9999)", 3).due("answer(10000)", Run.ARGUMENT)
            .due("answer(-1)", 3);
    }

    private static void firstJumpThatHasIt() {
        Run run = new Run("jumps").reads("q1?0-9\"a\":2-4>2+1,3-6>3+2,0-0>4+4,>5+8;q2!0-0\"a\":>1;q3!0-0\"a\":>1;"
            + "q4!0-0\"a\":>1;q5!0-0\"a\":>1;k1=1:0;", 5);
        int[] targets = {5, 4, 5, 2, 2, 2, 3, 3, 5, 5, 5};
        int[] points = {8, 4, 8, 1, 1, 1, 2, 2, 8, 8, 8};
        for (int v = -1; v <= 9; v++) {
            run.due("first(1)", 1).due("answer(" + v + ")", targets[v + 1]).due("points()", points[v + 1])
                .due("answer(0)", 1).due("points()", points[v + 1]);
        }
        new Run("one jump").reads("q1?0-9\"a\":>1+3;k1=1:0;", 1).due("first(1)", 1).due("answer(4)", 1).due("answer(-1)", 1)
            .due("points()", 6);
    }

    private static void ends() {
        new Run("ends").reads("q1!0-1\"a\":0-0>0+5,>60+6;k1=1:2;", 1)
            .due("first(1)", 1).due("answer(0)", 0).due("kind()", 1).due("points()", 5).due("priority()", 2).row("asked", 1)
            .due("answer(0)", Run.STATE).due("answer(99)", Run.STATE).due("answer(-1)", Run.STATE)
            .due("points()", 5).row("asked", 1)
            .due("first(1)", 1).due("points()", 0).due("answer(1)", 0).due("points()", 6).due("answer(1)", Run.STATE)
            .row("asked", 1).due("first(2)", Run.ARGUMENT).due("kind()", 1).due("points()", 6);
    }

    private static void atMostForty() {
        Run run = new Run("forty").reads("q1?0-9\"a\":0-7>1+1,8-8>60+2,>0+3;k1=1:1(q1=3:9)(p>39:8);", 1).due("first(1)", 1);
        for (int i = 1; i <= 39; i++) {
            run.due("answer(0)", 1);
        }
        run.due("points()", 39).due("asked(39)", 1).due("asked(40)", 0)
            .due("answer(3)", Run.STATE).due("answer(10)", Run.ARGUMENT).due("points()", 39).due("priority()", 1)
            .due("asked(40)", 0).due("answer(8)", 0).due("points()", 41).due("priority()", 8)
            .due("asked(39)", 1).due("asked(40)", 0).due("answer(8)", Run.STATE)
            .due("first(1)", 1).row("asked", 1);
        for (int i = 1; i <= 39; i++) {
            run.due("answer(7)", 1);
        }
        run.due("answer(0)", Run.STATE).due("answer(-1)", 0).due("points()", 42);
    }

    private static void points() {
        new Run("points").due("points()", Run.STATE).reads("q1!0-0\"a\":>1+999;q2!0-0\"a\":>2;k1=1:0;k2=2:0;", 2)
            .due("points()", Run.STATE).due("first(1)", 1).due("points()", 0).due("answer(0)", 1).due("points()", 999)
            .due("answer(1)", Run.ARGUMENT).due("points()", 999).due("answer(0)", 1).due("points()", 1998)
            .due("first(2)", 2).due("answer(0)", 2).due("points()", 0);
    }

    private static void asked() {
        new Run("asked").due("asked(-1)", Run.ARGUMENT).reads("q1!0-1\"a\":0-0>2,>3;q2!0-0\"a\":>3;q3!0-0\"a\":>1;k1=1:0;", 3)
            .row("asked").due("first(1)", 1).row("asked", 1).due("answer(0)", 2).row("asked", 1, 2).due("answer(0)", 3)
            .due("answer(0)", 1).due("answer(1)", 3).row("asked", 1, 2, 3, 1, 3)
            .due("asked(-1)", Run.ARGUMENT).due("asked(-2147483648)", Run.ARGUMENT)
            .due("first(1)", 1).row("asked", 1);
    }
}
