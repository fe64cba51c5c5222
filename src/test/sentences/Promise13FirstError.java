/** Promise 13. */
@Head("Promise 13: firstError")
final class Promise13FirstError {
    private static final String ORDERS = "p0001p5290b0b5d1d9c00c53p1145";

    private Promise13FirstError() {
    }

    private static void error(String text, int due) {
        Play play = new Play().type(text);
        Check.due("firstError of " + text, play.books.firstError(), due);
        Check.due("the buffer stays", play.books.clearBuffer(), text.length());
    }

    @Sentence("Finds the first syntax error of the buffer.")
    static void theFirstOfSeveral() {
        error("x", 0);
        error("xxx", 0);
        error("bxdx", 1);
        error("b6d0", 1);
        error("d1b6d0", 3);
        error("p03", 2);
        error("p0000", 4);
        error("p0091p0092", 4);
        error("x".repeat(60), 0);
        error("b0".repeat(29) + "x~", 58);
    }

    @Sentence("Returns the index of the first character that is a syntax error;")
    static void eachIndex() {
        for (int index = 0; index < ORDERS.length(); index++) {
            String rest = ORDERS.substring(index + 1);
            error(ORDERS.substring(0, index) + "!" + rest, index);
            error(ORDERS.substring(0, index) + "~" + rest, index);
            error(ORDERS.substring(0, index) + "!", index);
        }
        error("d1".repeat(29) + "d0", 59);
        error("d1".repeat(29) + "xx", 58);
    }

    @Sentence("the length of the buffer if there is none.")
    static void noError() {
        for (int length = 0; length <= ORDERS.length(); length++) {
            error(ORDERS.substring(0, length), length);
        }
        error("d9".repeat(30), 60);
        error("p5290".repeat(12), 60);
        error("c53".repeat(20), 60);
        error("b5".repeat(30), 60);
        error("d9".repeat(29) + "d", 59);
    }
}
