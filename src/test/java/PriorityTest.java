/** Promise 9: priority, by the conditions of the call's kind. */
public final class PriorityTest {
    private static final String QUESTIONS = "q1?0-9\"a\":>2+1;q2?0-9\"b\":5-5>0,>1+10;";

    public static void main(String[] args) {
        noCall();
        relations();
        pointsRelations();
        allTerms();
        firstCondition();
        latestAnswer();
        notAnswered();
        Run.end();
    }

    private static void noCall() {
        new Run("no call").due("priority()", Run.STATE).reads(QUESTIONS + "k1=1:4;", 2).due("priority()", Run.STATE)
            .due("first(1)", 1).due("priority()", 4).due("edition(1)", 2).due("priority()", Run.STATE);
    }

    private static void relations() {
        Run run = new Run("relations").reads(QUESTIONS + "k1=1:0(q1=5:1);k2=1:0(q1<5:1);k3=1:0(q1>5:1);", 2);
        for (int v = 4; v <= 6; v++) {
            run.due("first(1)", 1).due("answer(" + v + ")", 2).due("priority()", v == 5 ? 1 : 0)
                .due("first(2)", 1).due("answer(" + v + ")", 2).due("priority()", v < 5 ? 1 : 0)
                .due("first(3)", 1).due("answer(" + v + ")", 2).due("priority()", v > 5 ? 1 : 0);
        }
    }

    private static void pointsRelations() {
        new Run("points").reads(QUESTIONS + "k1=1:0(p<1:1)(p<11:2)(p>11:3);k2=1:7(p>0:1);", 2)
            .due("first(1)", 1).due("priority()", 1).due("answer(0)", 2).due("priority()", 2)
            .due("answer(0)", 1).due("points()", 11).due("priority()", 0).due("answer(0)", 2).due("priority()", 3)
            .due("first(2)", 1).due("priority()", 7).due("answer(-1)", 2).due("priority()", 1);
    }

    private static void allTerms() {
        new Run("all terms").reads(QUESTIONS + "k1=1:9(q1>2&q1<6&q2=3&p>10:1);", 2)
            .due("first(1)", 1).due("priority()", 9).due("answer(3)", 2).due("priority()", 9)
            .due("answer(3)", 1).due("priority()", 1)
            .due("first(1)", 1).due("answer(2)", 2).due("answer(3)", 1).due("priority()", 9)
            .due("first(1)", 1).due("answer(6)", 2).due("answer(3)", 1).due("priority()", 9)
            .due("first(1)", 1).due("answer(5)", 2).due("answer(4)", 1).due("priority()", 9);
    }

    private static void firstCondition() {
        new Run("first condition").reads(QUESTIONS + "k1=1:9(q1=1:3)(q1>0:2)(q1<9:1)(p<9999:0);", 2)
            .due("first(1)", 1).due("priority()", 0).due("answer(1)", 2).due("priority()", 3)
            .due("first(1)", 1).due("answer(9)", 2).due("priority()", 2)
            .due("first(1)", 1).due("answer(0)", 2).due("priority()", 1)
            .due("first(1)", 1).due("answer(-1)", 2).due("priority()", 0);
        new Run("six").reads(QUESTIONS + "k1=1:9(q1=0:0)(q1=1:1)(q1=2:2)(q1=3:3)(q1=4:4)(q1=5:5);", 2)
            .due("first(1)", 1).due("answer(5)", 2).due("priority()", 5).due("first(1)", 1).due("answer(6)", 2)
            .due("priority()", 9);
    }

    private static void latestAnswer() {
        new Run("latest").reads(QUESTIONS + "k1=1:9(q1=1:1)(q1=2:2);", 2)
            .due("first(1)", 1).due("answer(1)", 2).due("priority()", 1).due("answer(0)", 1).due("priority()", 1)
            .due("answer(2)", 2).due("priority()", 2).due("answer(0)", 1).due("answer(-1)", 2).due("priority()", 9)
            .due("answer(0)", 1).due("answer(1)", 2).due("priority()", 1).due("answer(5)", 0).due("priority()", 1)
            .due("first(1)", 1).due("priority()", 9);
    }

    private static void notAnswered() {
        new Run("not answered").reads(QUESTIONS + "k1=1:9(q2<9999:1)(q1=0:2)(q60<1:3);", 2)
            .due("first(1)", 1).due("priority()", 9).due("answer(-1)", 2).due("priority()", 9)
            .due("answer(-1)", 1).due("priority()", 9).due("answer(0)", 2).due("priority()", 2)
            .due("answer(0)", 1).due("priority()", 1).due("answer(12)", Run.ARGUMENT).due("priority()", 1);
    }
}
