/** Promises 12, 13 and 14: loop, never and endless. */
public final class WaysTest {
    public static void main(String[] args) {
        refused();
        loops();
        never();
        endless();
        byEditions();
        highNumbers();
        Run.end();
    }

    private static void refused() {
        Run run = new Run("refused");
        for (String call : new String[] {"loop", "never", "endless"}) {
            run.due(call + "(-1)", Run.ARGUMENT).due(call + "(-2147483648)", Run.ARGUMENT).row(call);
        }
    }

    private static void loops() {
        new Run("to itself").reads("q1!0-0\"a\":>1;", 1).row("loop", 1);
        new Run("none").reads("q1!0-0\"a\":>2;q2!0-0\"a\":>0;", 2).row("loop");
        new Run("over three").reads("q7!0-0\"a\":>3;q3!0-0\"a\":>5;q5!0-0\"a\":0-0>7,>0;q1!0-0\"a\":>3;q9!0-0\"a\":>1;", 5)
            .row("loop", 3, 5, 7);
        new Run("two apart").reads("q1!0-0\"a\":>2;q2!0-0\"a\":>1;q4!0-0\"a\":>3;q3!0-0\"a\":>4;q5!0-0\"a\":0-0>1,>3;", 5)
            .row("loop", 1, 2, 3, 4);
        new Run("by a jump that no answer takes").reads("q1!0-0\"a\":5-6>1,>0;", 1).row("loop", 1);
        new Run("by the last of six").reads("q1!0-0\"a\":0-0>0,0-0>0,0-0>0,0-0>0,0-0>0,>1;", 1).row("loop", 1);
        new Run("by each of six").reads("q1!0-0\"a\":0-0>2,0-0>3,0-0>4,0-0>5,0-0>6,>7;q2!0-0\"a\":>1;q3!0-0\"a\":>1;"
            + "q4!0-0\"a\":>1;q5!0-0\"a\":>1;q6!0-0\"a\":>1;q7!0-0\"a\":>1;", 7).row("loop", 1, 2, 3, 4, 5, 6, 7);
    }

    private static void never() {
        new Run("no kinds").reads("q2!0-0\"a\":>1;q1!0-0\"a\":>2;", 2).row("never", 1, 2);
        new Run("by one kind").reads("q1!0-0\"a\":>2;q2!0-0\"a\":>0;q3!0-0\"a\":>1;k1=1:0;", 3).row("never", 3);
        new Run("by several kinds").reads("q1!0-0\"a\":>2;q2!0-0\"a\":>0;q3!0-0\"a\":>5;q4!0-0\"a\":>1;q5!0-0\"a\":>0;"
            + "k2=3:0;k9=2:0;", 5).row("never", 1, 4);
        new Run("a kind that begins with none").reads("q1!0-0\"a\":>1;k1=2:0;", 1).row("never", 1);
    }

    private static void endless() {
        new Run("ends with 0").reads("q1!0-0\"a\":>1;q2!0-0\"a\":1-1>0,>2;k1=1:0;k2=2:0;", 2).row("endless", 1);
        new Run("ends with no question").reads("q1!0-0\"a\":>1;q2!0-0\"a\":1-1>60,>2;k3=1:0;k2=2:0;k9=1:0;", 2)
            .row("endless", 3, 9);
        new Run("ends at once").reads("q1!0-0\"a\":>1;k1=2:0;k2=1:0;", 1).row("endless", 2);
        new Run("over others").reads("q1!0-0\"a\":>2;q2!0-0\"a\":>3;q3!0-0\"a\":0-0>1,>4;q4!0-0\"a\":>0;q5!0-0\"a\":>6;"
            + "q6!0-0\"a\":>5;q7!0-0\"a\":>5;q8!0-0\"a\":0-0>5,>1;k1=1:0;k2=5:0;k3=7:0;k4=8:0;", 8).row("endless", 2, 3);
    }

    private static void byEditions() {
        new Run("editions").reads("q1!0-0\"a\":>2;k1=1:0;", 1).row("loop").row("never").row("endless")
            .reads("q2!0-0\"a\":>1;q3!0-0\"a\":>1;", 3).row("loop", 1, 2).row("never", 3).row("endless", 1)
            .reads("q1!0-0\"a\":>3;q2!0-0\"a\":>0;", 3).row("loop", 1, 3).row("never", 2).row("endless", 1)
            .due("edition(1)", 1).row("loop").row("never").row("endless")
            .due("edition(2)", 3).row("loop", 1, 2).row("never", 3).row("endless", 1)
            .due("edition(0)", 0).row("loop").row("never").row("endless");
    }

    private static void highNumbers() {
        new Run("high").reads("q60!0-0\"a\":>59;q59!0-0\"a\":>60;q32!0-0\"a\":>31;q31!0-0\"a\":>32;q33!0-0\"a\":>1;k9=60:0;k1=33:0;", 5)
            .row("loop", 31, 32, 59, 60).row("never", 31, 32).row("endless", 9);
    }
}
