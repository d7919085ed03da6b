/** Promise 15: word. */
public final class WordTest {
    public static void main(String[] args) {
        bytes();
        refused();
        Run.end();
    }

    private static void bytes() {
        Run run = new Run("bytes").reads("q1!0-0\"fire ~!\"\"feu\":>0;q60!0-0\"x\":>0;", 2);
        String[] languages = {"fire ~!", "feu"};
        for (int language = 0; language < 2; language++) {
            String words = languages[language];
            for (int i = 0; i < words.length(); i++) {
                run.due("word(1, " + language + ", " + i + ")", words.charAt(i));
            }
            run.due("word(1, " + language + ", " + words.length() + ")", -1)
                .due("word(1, " + language + ", 2147483647)", -1)
                .due("word(60, " + language + ", 0)", 'x').due("word(60, " + language + ", 1)", -1);
        }
        run.reads("q2!0-0\"ab\":>0;", 3).due("word(1, 1, 0)", 'f').due("word(2, 1, 1)", 'b');
    }

    private static void refused() {
        new Run("refused").due("word(1, 0, 0)", Run.ARGUMENT).reads("q1!0-0\"fire\":>2;k2=1:0;", 1)
            .due("word(2, 0, 0)", Run.ARGUMENT).due("word(0, 0, 0)", Run.ARGUMENT).due("word(61, 0, 0)", Run.ARGUMENT)
            .due("word(-1, 0, 0)", Run.ARGUMENT).due("word(2147483647, 0, 0)", Run.ARGUMENT)
            .due("word(-2147483648, 0, 0)", Run.ARGUMENT)
            .due("word(1, 2, 0)", Run.ARGUMENT).due("word(1, -1, 0)", Run.ARGUMENT)
            .due("word(1, 0, -1)", Run.ARGUMENT).due("word(1, 1, -2147483648)", Run.ARGUMENT)
            .due("word(1, 0, 0)", 'f').due("edition(0)", 0).due("word(1, 0, 0)", Run.ARGUMENT);
    }
}
