/** Promises 10, 22 and 23: end, gameOf, count. */
public final class CoinsTest {
    public static void main(String[] args) {
        prizesOfOneWinner();
        prizesAreShared();
        anEveningWithoutWinners();
        coinsOfSeveralEvenings();
        counts();
        Check.finish();
    }

    private static void game(TombolaBooks b, int game, int... due) {
        for (int what = 0; what < 4; what++) {
            Check.due("game " + game + ", property " + what, b.gameOf(game, what), due[what]);
        }
    }

    private static void prizesOfOneWinner() {
        Play play = new Play().wholeCards(2);
        TombolaBooks b = play.books;
        b.set(0, 99);
        b.buy(0);
        b.set(0, 30);
        b.buy(1);
        game(b, 0, 0, 0, 0, 0);
        play.balls(1, 12, 23, 34, 45, 2, 14, 58, 69, 70);
        b.claim(0, 0);
        b.claim(0, 1);
        play.balls(13, 24, 46, 57, 90);
        b.claim(0, 2);
        b.claim(0, 3);
        // Of 129 coins: 12.9, 12.9, 25.8 and 51.6.
        game(b, 0, 1, 10, 12, 12);
        game(b, 1, 1, 10, 12, 12);
        game(b, 2, 1, 15, 25, 25);
        game(b, 3, 1, 15, 51, 51);
        Check.due("end", play.end(), 29);
        Check.due("won by card 0", b.cardOf(0, 7), 100);
        Check.due("won by card 1", b.cardOf(1, 7), 0);
        Check.due("the pot", b.count(3), 0);
        Check.due("came in", b.count(4), 129);
        Check.due("paid", b.count(5), 100);
        Check.due("the house's", b.count(6), 29);
        Check.due("evenings", b.count(12), 1);
        Check.due("bought", b.count(2), 0);
        Check.due("the cards stay", b.count(0), 30);
        game(b, 3, 0, 0, 0, 0);
    }

    private static void prizesAreShared() {
        Play play = new Play().wholeCards(3);
        TombolaBooks b = play.books;
        b.set(0, 67);
        b.buy(0);
        b.buy(1);
        b.buy(2);
        play.balls(1, 12, 23, 34, 45, 3, 15, 25, 35, 47, 4, 18, 27, 36, 49);
        b.claim(2, 0);
        game(b, 0, 4, 15, 20, 20);
        b.claim(0, 0);
        game(b, 0, 5, 15, 20, 10);
        b.claim(1, 0);
        // 201 coins: 20 for the line, 6 for each of three.
        game(b, 0, 7, 15, 18, 6);
        Check.due("end", play.end(), 183);
        Check.due("coins of each", b.cardOf(0, 7) * 100 + b.cardOf(1, 7) * 10 + b.cardOf(2, 7), 666);
        Check.due("paid", b.count(5), 18);
    }

    private static void anEveningWithoutWinners() {
        TombolaBooks b = new TombolaBooks();
        Check.due("end of an empty evening", b.end(), 0);
        Check.due("evenings", b.count(12), 1);
        Check.due("saved", b.count(14), 1);
        TombolaBooks c = new Play().bought(2).books;
        c.draw(90);
        Check.due("all for the house", c.end(), 20);
        Check.due("the lot goes on", c.count(13) == 1 ? 1 : 0, 0);
        Check.due("nothing for the house again", c.end(), 0);
        Check.due("evenings", c.count(12), 2);
    }

    private static void coinsOfSeveralEvenings() {
        Play play = new Play().bought(3);
        TombolaBooks b = play.books;
        play.balls(1, 12, 23, 34, 45);
        b.claim(0, 0);
        b.claim(1, 3);
        Check.due("first end", play.end(), 27);
        b.set(0, 20);
        b.buy(0);
        b.buy(1);
        Check.due("the pot is this evening's", b.count(3), 40);
        play.balls(1, 12, 23, 34, 45);
        b.claim(0, 0);
        game(b, 0, 1, 5, 4, 4);
        Check.due("second end", play.end(), 36);
        Check.due("coins so far", b.cardOf(0, 7), 7);
        Check.due("came in so far", b.count(4), 70);
        Check.due("paid so far", b.count(5), 7);
        Check.due("the house's so far", b.count(6), 63);
        Check.due("claims that won so far", b.count(10), 2);
        Check.due("claims that were turned down so far", b.count(11), 1);
        Check.due("turned down of card 1", b.cardOf(1, 8), 1);
    }

    private static void counts() {
        Play play = new Play().wholeCards(3);
        TombolaBooks b = play.books;
        b.buy(0);
        b.buy(1);
        b.put(5, 0, 7);
        b.set(1, 2);
        play.balls(1, 12, 23);
        b.claim(0, 0);
        b.seed(4711);
        int[] due = {46, 3, 2, 20, 20, 0, 0, 87, 3, 1, 0, 1, 0, 4711, 6};
        for (int what = 0; what < 15; what++) {
            Check.due("count(" + what + ")", b.count(what), due[what]);
        }
    }
}
