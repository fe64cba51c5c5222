/** Promise 22. */
@Head("Promise 22: gameOf")
final class Promise22GameOf {
    private Promise22GameOf() {
    }

    /** Three cards, bought for so many coins each, of which all was drawn. */
    private static Play drawn(int price) {
        Play play = new Play().wholeCards(3).set(0, price).buy(3);
        play.books.draw(90);
        return play;
    }

    private static void due(TombolaBooks b, int game, int... due) {
        for (int what = 0; what < 4; what++) {
            Check.due("game " + game + ", property " + what, b.gameOf(game, what), due[what]);
        }
    }

    @Sentence("Returns a property of a game in this evening.")
    static void inThisEvening() {
        Play play = drawn(67);
        play.books.claim(2, 3);
        due(play.books, 3, 4, 90, 80, 80);
        due(play.books, 2, 0, 0, 0, 0);
        play.end();
        due(play.books, 3, 0, 0, 0, 0);
        play.buy(3);
        due(play.books, 3, 0, 0, 0, 0);
    }

    @Sentence("`game`: 0 to 3")
    static void game() {
        Bounds.inside(0, 3, () -> drawn(67).books, (b, game) -> {
            b.claim(1, game);
            return b.gameOf(game, 0) * 100 + b.gameOf(game, 1);
        }, game -> 290);
    }

    @Sentence("`what`: 0: the cards that won it, as a mask;")
    static void theCardsThatWonIt() {
        TombolaBooks b = new Play().fullBook().buy(6).books;
        b.draw(90);
        Check.due("none", b.gameOf(3, 0), 0);
        int mask = 0;
        for (int card = 5; card >= 0; card--) {
            b.claim(card, 3);
            mask |= 1 << card;
            Check.due("the mask", b.gameOf(3, 0), mask);
        }
        Check.due("of another game", b.gameOf(2, 0), 0);
    }

    @Sentence("1: the call behind which it was won,")
    static void theCallBehindWhichItWasWon() {
        Play play = new Play().bought(1).balls(1, 12, 23, 34, 45);
        play.books.claim(0, 0);
        Check.due("behind the fifth call", play.books.gameOf(0, 1), 5);
        play.balls(2, 70);
        play.books.claim(0, 0);
        Check.due("a claim that is turned down changes nothing", play.books.gameOf(0, 1), 5);
        play.books.claim(0, 1);
        Check.due("behind the seventh call", play.books.gameOf(1, 1), 7);
        play.books.draw(83);
        play.books.claim(0, 3);
        Check.due("behind the last call", play.books.gameOf(3, 1), 90);
    }

    @Sentence("0 if it is not;")
    static void notWon() {
        Play play = new Play().bought(1);
        for (int game = 0; game < 4; game++) {
            play.books.claim(0, game);
            Check.due("turned down", play.books.gameOf(game, 1), 0);
        }
        play.books.draw(90);
        Check.due("not claimed", play.books.gameOf(3, 1), 0);
    }

    @Sentence("2: what it would pay if the evening ended now, to all cards together "
            + "(what each gets, times how many won it);")
    static void whatItWouldPayTogether() {
        Play play = drawn(67);
        int[][] due = {{20, 20, 18}, {20, 20, 18}, {40, 40, 39}, {80, 80, 78}};
        for (int game = 0; game < 4; game++) {
            Check.due("not won", play.books.gameOf(game, 2), 0);
            for (int card = 0; card < 3; card++) {
                play.books.claim(card, game);
                Check.due("to " + (card + 1), play.books.gameOf(game, 2), due[game][card]);
            }
        }
        Check.due("the house", play.end(), 201 - 18 - 18 - 39 - 78);
    }

    @Sentence("if the evening ended now,")
    static void byTheCoinsOfThisEvening() {
        Play play = drawn(67);
        play.end();
        play.set(0, 10).buy(1);
        play.books.draw(90);
        play.books.claim(0, 2);
        due(play.books, 2, 1, 90, 2, 2);
        // A price that is changed behind the buying changes nothing.
        play.set(0, 99);
        due(play.books, 2, 1, 90, 2, 2);
    }

    @Sentence("3: what it would pay to each")
    static void whatItWouldPayToEach() {
        Play play = drawn(67);
        int[][] due = {{20, 10, 6}, {20, 10, 6}, {40, 20, 13}, {80, 40, 26}};
        for (int game = 0; game < 4; game++) {
            Check.due("not won", play.books.gameOf(game, 3), 0);
            for (int card = 0; card < 3; card++) {
                play.books.claim(card, game);
                Check.due("to each of " + (card + 1), play.books.gameOf(game, 3), due[game][card]);
            }
        }
        play.end();
        Check.due("as it was paid", play.books.cardOf(2, 7), 6 + 6 + 13 + 26);
        Play poor = drawn(1);
        poor.books.claim(0, 0);
        poor.books.claim(0, 3);
        Check.due("10 hundredths of 3", poor.books.gameOf(0, 3), 0);
        Check.due("40 hundredths of 3", poor.books.gameOf(3, 3), 1);
        poor.books.claim(1, 3);
        Check.due("a half of it", poor.books.gameOf(3, 3), 0);
    }

    @Sentence("Returns the property.")
    static void returnsEachProperty() {
        Play play = drawn(67);
        play.books.claim(0, 2);
        play.books.claim(2, 2);
        due(play.books, 2, 5, 90, 40, 20);
    }

    @Sentence("Throws `IndexOutOfBoundsException` if there is no such game")
    static void noSuchGame() {
        for (int what = 0; what < 5; what++) {
            int which = what;
            Bounds.outside(0, 3, Bounds.PLACE, TombolaBooks::new, (b, game) -> b.gameOf(game, which));
        }
    }

    @Sentence("Throws `IllegalArgumentException` if what is not 0 to 3")
    static void whatOutOfRange() {
        Bounds.outside(0, 3, Bounds.VALUE, TombolaBooks::new, (b, what) -> b.gameOf(0, what));
        Bounds.outside(0, 3, Bounds.VALUE, () -> Play.rich().books, (b, what) -> b.gameOf(3, what));
    }
}
