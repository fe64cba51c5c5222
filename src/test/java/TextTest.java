/** Promises 11 to 14: append, clearBuffer, firstError, run. */
public final class TextTest {
    public static void main(String[] args) {
        buffer();
        syntaxErrors();
        whatTellsNoEvening();
        ordersAreDone();
        ordersStop();
        turnedDownClaimsCount();
        theLongestText();
        Check.finish();
    }

    private static void buffer() {
        TombolaBooks b = new TombolaBooks();
        Check.due("append(33)", b.append(33), 1);
        Check.due("append(126)", b.append(126), 2);
        Check.dueThrow("append(32)", IllegalArgumentException.class, () -> b.append(32));
        Check.dueThrow("append(127)", IllegalArgumentException.class, () -> b.append(127));
        Check.due("clearBuffer", b.clearBuffer(), 2);
        Check.due("clearBuffer again", b.clearBuffer(), 0);
        for (int i = 1; i <= 60; i++) {
            Check.due("append", b.append('z'), i);
        }
        Check.dueThrow("the 61st", IllegalStateException.class, () -> b.append('z'));
        Check.dueThrow("a wrong 61st", IllegalArgumentException.class, () -> b.append(32));
        Check.due("the whole buffer", b.clearBuffer(), 60);
        Check.due("nothing is saved", b.count(14), 0);
    }

    private static void error(String text, int due) {
        Play play = new Play().type(text);
        Check.due("firstError of " + text, play.books.firstError(), due);
        Check.due("the buffer stays", play.books.clearBuffer(), text.length());
    }

    private static void syntaxErrors() {
        error("", 0);
        for (char sign = 33; sign <= 126; sign++) {
            boolean begins = "pbdc".indexOf(sign) >= 0;
            error("" + sign, begins ? 1 : 0);
            error("b0" + sign, begins ? 3 : 2);
            boolean isDigit = sign >= '0' && sign <= '9';
            error("b" + sign, isDigit && sign <= '5' ? 2 : 1);
            error("p" + sign, isDigit && sign <= '5' ? 2 : 1);
            error("c" + sign, isDigit && sign <= '5' ? 2 : 1);
            error("d" + sign, isDigit && sign != '0' ? 2 : 1);
            error("c5" + sign, isDigit && sign <= '3' ? 3 : 2);
            error("p5" + sign, isDigit && sign <= '2' ? 3 : 2);
            error("p00" + sign, isDigit ? 4 : 3);
            error("p000" + sign, isDigit && sign != '0' ? 5 : 4);
            error("p008" + sign, isDigit ? 5 : 4);
            error("p009" + sign, sign == '0' ? 5 : 4);
        }
        error("p5290b5d9c53d1", 14);
        error("d1d1x", 4);
        error("d1d1p6d1", 5);
        error("c00b", 4);
        error("~p", 0);
    }

    private static void whatTellsNoEvening() {
        for (String text : new String[] {"", "p", "p0", "p00", "p000", "b", "d", "c", "c0", "d0",
            "d1d", "d1c0", "d1x", "p0000", "p0091", "b6", "d1p009"}) {
            Play play = new Play().type(text);
            Check.dueThrow("run of " + text, IllegalArgumentException.class, play.books::run);
            Check.due("the buffer stays", play.books.clearBuffer(), text.length());
            Check.due("nothing is drawn or saved", play.books.count(8) + play.books.count(14), 0);
        }
    }

    private static int run(Play play, String text) {
        play.type(text);
        int done = play.books.run();
        Check.due("the buffer is cleared", play.books.clearBuffer(), 0);
        return done;
    }

    private static void ordersAreDone() {
        Play play = new Play();
        TombolaBooks b = play.books;
        Check.due("puts", run(play, "p0001p0112p5290"), 3);
        Check.due("1 stands", b.at(0, 0, 0), 1);
        Check.due("12 stands", b.at(0, 1, 1), 12);
        Check.due("90 stands", b.at(5, 2, 8), 90);
        Check.due("saved as one", b.count(14), 1);
        Check.due("undo", b.undo(), 0);
        Check.due("the book is empty", b.count(0), 0);
        Check.due("the buffer stays empty", b.clearBuffer(), 0);
        Play game = new Play().wholeCards(2);
        Check.due("buys and draws", run(game, "b0b1d2d9"), 4);
        Check.due("bought", game.books.count(2), 2);
        Check.due("the pot", game.books.count(3), 20);
        Check.due("drawn", game.books.count(8), 11);
        Check.due("15 was first", game.books.numberOf(15, 2), 1);
        game.end();
        game.books.buy(0);
        game.balls(1, 12, 23, 34, 45);
        Check.due("a claim", run(game, "c00d1"), 2);
        Check.due("the game is won", game.books.gameOf(0, 0), 1);
        Check.due("it won behind the call 5", game.books.gameOf(0, 1), 5);
    }

    private static void ordersStop() {
        Play play = new Play().wholeCards(1);
        TombolaBooks b = play.books;
        Check.due("a refused put", run(play, "p1003p1003p1005"), 1);
        Check.due("nothing behind it", b.numberOf(5, 0), TombolaBooks.NONE);
        Check.due("a card that cannot be bought", run(play, "b1d1"), 0);
        Check.due("no ball", b.count(8), 0);
        Check.due("a card that was bought", run(play, "b0b0d1"), 1);
        Check.due("a claim of a card that was not bought", run(play, "d1c10d1"), 1);
        Check.due("is not turned down", b.count(11), 0);
        Check.due("buy behind a call", run(play, "b0"), 0);
        b.draw(80);
        Check.due("9 balls", b.count(7), 9);
        Check.due("all of them, and one more", run(play, "d9d1p1113"), 1);
        Check.due("no ball is left", b.count(7), 0);
        Check.due("13 was not put", b.numberOf(13, 0), 0);
        b.undo();
        b.draw(3);
        Check.due("7 of 6 balls", run(play, "d7"), 0);
        Check.due("not one of them", b.count(7), 6);
    }

    private static void turnedDownClaimsCount() {
        Play play = new Play().bought(1);
        TombolaBooks b = play.books;
        Check.due("a claim ahead of the first call", run(play, "c00d1"), 0);
        Check.due("turned down", b.count(11), 1);
        Check.due("of the card", b.cardOf(0, 8), 1);
        Check.due("no ball", b.count(8), 0);
        int saved = b.count(14);
        Check.due("saved though none is done", saved, 6);
        b.undo();
        Check.due("undo takes it back", b.count(11), 0);
    }

    private static void theLongestText() {
        Play play = new Play();
        StringBuilder text = new StringBuilder();
        for (int i = 0; i < 30; i++) {
            text.append("d3");
        }
        Check.due("30 orders", run(play, text.toString()), 30);
        Check.due("all balls", play.books.count(8), 90);
    }
}
