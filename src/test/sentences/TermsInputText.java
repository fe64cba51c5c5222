/** "Input text". */
@Head("Input text")
final class TermsInputText {
    private static final String DIGITS = "0123456789";

    private TermsInputText() {
    }

    private static void error(String text, int due) {
        Check.due("firstError of " + text, new Play().type(text).books.firstError(), due);
    }

    /** Which signs may stand behind a text that no error is in; every other one is an error. */
    private static void follow(String text, String signs) {
        TombolaBooks b = new Play().type(text).books;
        Check.due("firstError of " + text, b.firstError(), text.length());
        for (char sign = 33; sign <= 126; sign++) {
            Play play = new Play().type(text + sign);
            int due = text.length() + (signs.indexOf(sign) < 0 ? 0 : 1);
            Check.due("firstError of " + text + sign, play.books.firstError(), due);
        }
    }

    private static void tells(String text) {
        Play play = new Play().fullBook().type(text);
        Check.due("firstError of " + text, play.books.firstError(), text.length());
        Check.record(play.books.run() >= 0, "run of " + text);
    }

    private static void tellsNot(String text) {
        Bounds.thrown("run of " + text, Bounds.VALUE, new Play().type(text).books, TombolaBooks::run);
    }

    @Sentence("The buffer has at most 60 characters.")
    static void sixtyCharacters() {
        TombolaBooks b = new Play().type("d".repeat(59)).books;
        Check.due("the 60th", b.append('d'), 60);
        Bounds.thrown("the 61st", Bounds.STATE, b, each -> each.append('d'));
        Check.due("the length", b.clearBuffer(), 60);
        Check.due("behind clearBuffer", b.append('d'), 1);
    }

    @Sentence("An evening as a text is one or more orders, one behind the other:")
    static void oneOrMoreOrders() {
        tellsNot("");
        tells("d1");
        tells("d1b0p0001c00");
        tells("d1".repeat(30));
        tellsNot("d1d");
        tellsNot("d1-d1");
        tellsNot("d1,d1");
    }

    @Sentence("\"p\", the digits of a card, 0 to 5, and of a row, 0 to 2, and two digits of a number, 01 to 90")
    static void orderOfPut() {
        follow("p", "012345");
        follow("p0", "012");
        follow("p5", "012");
        follow("p00", DIGITS);
        follow("p52", DIGITS);
        follow("p000", "123456789");
        follow("p001", DIGITS);
        follow("p528", DIGITS);
        follow("p009", "0");
        follow("p0045", "pbdc");
        for (String text : new String[] {"p", "p0", "p00", "p000", "p0000", "p0091", "p6001", "p0301"}) {
            tellsNot(text);
        }
    }

    @Sentence("(it is put there);")
    static void aNumberIsPut() {
        Play play = new Play().type("p0001p5290p3145");
        Check.due("orders", play.books.run(), 3);
        Check.due("01", play.books.at(0, 0, 0), 1);
        Check.due("90", play.books.at(5, 2, 8), 90);
        Check.due("45", play.books.at(3, 1, 4), 45);
        Check.due("numbers", play.books.count(0), 3);
    }

    @Sentence("\"b\" and the digit of a card (it is bought);")
    static void orderOfBuy() {
        follow("b", "012345");
        follow("b0", "pbdc");
        follow("b5", "pbdc");
        tellsNot("b");
        tellsNot("b6");
        Play play = new Play().fullBook().type("b5b0");
        Check.due("orders", play.books.run(), 2);
        Check.due("the card 0", play.books.cardOf(0, 2), 1);
        Check.due("the card 5", play.books.cardOf(5, 2), 1);
        Check.due("bought cards", play.books.count(2), 2);
    }

    @Sentence("\"d\" and a digit, 1 to 9 (so many balls are drawn);")
    static void orderOfDraw() {
        follow("d", "123456789");
        follow("d1", "pbdc");
        follow("d9", "pbdc");
        tellsNot("d");
        tellsNot("d0");
        for (int balls = 1; balls <= 9; balls++) {
            Play play = new Play().type("d" + balls);
            Check.due("an order", play.books.run(), 1);
            Check.due("calls", play.books.count(8), balls);
        }
    }

    @Sentence("or \"c\", the digit of a card, and of a game, 0 to 3 (a claim).")
    static void orderOfClaim() {
        follow("c", "012345");
        follow("c0", "0123");
        follow("c5", "0123");
        follow("c53", "pbdc");
        tellsNot("c");
        tellsNot("c0");
        tellsNot("c04");
        tellsNot("c60");
        Play play = new Play().fullBook().buy(6);
        play.books.draw(90);
        Check.due("orders", play.type("c00c53").books.run(), 2);
        Check.due("the line", play.books.gameOf(0, 0), 1);
        Check.due("the full card", play.books.gameOf(3, 0), 32);
    }

    @Sentence("The buffer is read from left to right;")
    static void fromLeftToRight() {
        error("d0x", 1);
        error("xd0", 0);
        error("1d", 0);
        error("d1d1d0d1x", 5);
        Play play = new Play().wholeCards(1).type("b0d1c00d1");
        Check.due("bought, then drawn, then claimed", play.books.run(), 2);
        Check.due("nothing behind the claim", play.books.count(8), 1);
    }

    @Sentence("a character is a syntax error if no evening as a text, of any length, begins with the characters "
            + "before it and this character.")
    static void whatIsASyntaxError() {
        follow("", "pbdc");
        error("p009", 4);
        error("p0099", 4);
        error("d1p", 3);
        // What a text that is longer than the buffer begins with is none.
        error("d1".repeat(29) + "b5", 60);
        error("d1".repeat(29) + "b1", 60);
        error("b1".repeat(29) + "d1", 60);
        error("c00".repeat(19) + "d1p", 60);
        error("p0001".repeat(11) + "p009", 59);
        error("p0001".repeat(11) + "c009p", 58);
        error("p0001".repeat(11) + "p0091", 59);
        error("p0001".repeat(11) + "p0090", 60);
        // An order that cannot be done is none either.
        error("b0b0p0001p0001", 14);
    }
}
