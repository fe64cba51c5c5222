/** "Coins". */
@Head("Coins")
final class TermsCoins {
    private TermsCoins() {
    }

    /** A book in which the card 0, bought for so many coins, has won all games. */
    private static Play winner(int price) {
        Play play = new Play().wholeCards(3).set(0, price).buy(1);
        claimAll(play, 1);
        return play;
    }

    private static void claimAll(Play play, int cards) {
        play.books.draw(90);
        for (int card = 0; card < cards; card++) {
            for (int game = 0; game < 4; game++) {
                Check.due("a claim behind all calls", play.books.claim(card, game), 0);
            }
        }
    }

    private static void pays(TombolaBooks b, int... due) {
        for (int game = 0; game < 4; game++) {
            Check.due("the game " + game + " pays", b.gameOf(game, 2), due[game]);
        }
    }

    @Sentence("A card that is whole can be bought,")
    static void aWholeCardCanBeBought() {
        TombolaBooks b = new Play().wholeCards(1).books;
        b.take(70);
        Bounds.thrown("a card with 14 numbers", Bounds.STATE, b, each -> each.buy(0));
        Bounds.thrown("an empty card", Bounds.STATE, b, each -> each.buy(5));
        b.put(0, 2, 70);
        Check.due("a card with 15 numbers", b.buy(0), 10);
    }

    @Sentence("for setting 0 coins, which go into the pot.")
    static void thePriceGoesIntoThePot() {
        TombolaBooks b = new Play().wholeCards(3).books;
        Check.due("at the first price", b.buy(0), 10);
        b.set(0, 1);
        Check.due("at the least price", b.buy(1), 11);
        b.set(0, 99);
        Check.due("at the greatest price", b.buy(2), 110);
        Check.due("the pot", b.count(3), 110);
    }

    @Sentence("At the end of the evening each game that was won pays its part of the pot "
            + "(10, 10, 20 and 40 hundredths of the coins that came in in this evening, for the games 0 to 3, "
            + "each rounded down),")
    static void partsOfThePot() {
        int[] prices = {1, 2, 3, 4, 5, 9, 10, 19, 20, 99};
        int[] lines = {0, 0, 0, 0, 0, 0, 1, 1, 2, 9};
        int[] twoLines = {0, 0, 0, 0, 1, 1, 2, 3, 4, 19};
        int[] full = {0, 0, 1, 1, 2, 3, 4, 7, 8, 39};
        for (int i = 0; i < prices.length; i++) {
            Play play = winner(prices[i]);
            pays(play.books, lines[i], lines[i], twoLines[i], full[i]);
            int paid = 2 * lines[i] + twoLines[i] + full[i];
            Check.due("the house of " + prices[i], play.end(), prices[i] - paid);
            Check.due("the card of " + prices[i], play.books.cardOf(0, 7), paid);
        }
    }

    @Sentence("each game that was won pays")
    static void aGameThatWasNotWonPaysNothing() {
        Play play = new Play().wholeCards(1).set(0, 99).buy(1).balls(1, 12, 23, 34, 45);
        play.books.claim(0, 0);
        play.books.claim(0, 3);
        pays(play.books, 9, 0, 0, 0);
        Check.due("the house", play.end(), 90);
        Check.due("the card", play.books.cardOf(0, 7), 9);
        Play none = new Play().wholeCards(1).set(0, 99).buy(1);
        none.books.draw(90);
        pays(none.books, 0, 0, 0, 0);
        Check.due("nothing was claimed: all is the house's", none.end(), 99);
    }

    @Sentence("the coins that came in in this evening,")
    static void coinsOfTheEveningsBeforeDoNotCount() {
        Play play = winner(99);
        play.end();
        play.set(0, 10).buy(1);
        claimAll(play, 1);
        pays(play.books, 1, 1, 2, 4);
        Check.due("the house", play.end(), 2);
        Check.due("came in in both", play.books.count(4), 109);
        Check.due("an evening without coins", play.end(), 0);
    }

    @Sentence("in equal parts, rounded down, to the cards that won it;")
    static void equalParts() {
        Play play = new Play().wholeCards(3).set(0, 67).buy(3);
        claimAll(play, 3);
        // Of 201 coins the games pay up to 20, 20, 40 and 80, each to three cards.
        pays(play.books, 18, 18, 39, 78);
        Check.due("to each for two lines", play.books.gameOf(2, 3), 13);
        Check.due("the house", play.end(), 201 - 153);
        for (int card = 0; card < 3; card++) {
            Check.due("the card " + card, play.books.cardOf(card, 7), 6 + 6 + 13 + 26);
        }
        Check.due("paid", play.books.count(5), 153);
        // One coin for two cards: none for each.
        Play one = new Play().wholeCards(2).set(0, 5).buy(2);
        claimAll(one, 2);
        pays(one.books, 0, 0, 2, 4);
        Check.due("the house", one.end(), 4);
        Check.due("the card 1", one.books.cardOf(1, 7), 3);
    }

    @Sentence("in equal parts, rounded down, to the cards that won it;")
    static void toAllSixCards() {
        Play play = new Play().fullBook().set(0, 99).buy(6);
        claimAll(play, 6);
        // Of 594 coins 59, 59, 118 and 237, in six parts.
        pays(play.books, 54, 54, 114, 234);
        Check.due("the house", play.end(), 594 - 54 - 54 - 114 - 234);
        for (int card = 0; card < 6; card++) {
            Check.due("the card " + card, play.books.cardOf(card, 7), 9 + 9 + 19 + 39);
        }
        Check.due("paid", play.books.count(5), 456);
    }

    @Sentence("what is left of the pot is the house's.")
    static void theRestIsTheHouses() {
        Play play = winner(99);
        Check.due("the house gets", play.end(), 99 - 9 - 9 - 19 - 39);
        Check.due("the pot", play.books.count(3), 0);
        Check.due("the house's so far", play.books.count(6), 23);
        play.buy(1);
        Check.due("without a winner all", play.end(), 99);
        Check.due("the house's so far", play.books.count(6), 122);
    }

    @Sentence("Then an evening begins anew:")
    static void anEveningBeginsAnew() {
        Play play = winner(99);
        play.end();
        Check.due("calls", play.books.count(8), 0);
        Check.due("slips", play.books.count(9), 0);
        Check.due("the pot", play.books.count(3), 0);
        Check.due("a card can be bought", play.books.buy(1), 99);
    }

    @Sentence("the drum has all balls,")
    static void theDrumHasAllBallsAgain() {
        TombolaBooks b = new TombolaBooks();
        b.draw(90);
        b.end();
        Check.due("balls", b.count(7), 90);
        b.seed(1);
        Check.due("the first one as in a new book", b.draw(1), 15);
        b.draw(89);
        for (int number = 1; number <= 90; number++) {
            Check.record(b.numberOf(number, 2) > 0, number + " was not drawn again");
        }
    }

    @Sentence("nothing was drawn or said,")
    static void nothingWasDrawnOrSaid() {
        Play play = new Play().wholeCards(1).slips(1, 12, 45);
        play.end();
        for (int number = 1; number <= 90; number++) {
            Check.due("drawn: " + number, play.books.numberOf(number, 2), 0);
            Check.due("said: " + number, play.books.numberOf(number, 3), 0);
        }
        Check.due("the latest call", play.books.call(0, 0), TombolaBooks.NONE);
        Check.due("what was said", play.books.call(0, 1), TombolaBooks.NONE);
        Check.due("drawn of the card", play.books.cardOf(0, 3), 0);
        Check.due("said of the card", play.books.cardOf(0, 4), 0);
    }

    @Sentence("no game is won,")
    static void noGameIsWon() {
        Play play = winner(99);
        play.end();
        Check.due("games of the card", play.books.cardOf(0, 6), 0);
        for (int game = 0; game < 4; game++) {
            Check.due("won by", play.books.gameOf(game, 0), 0);
            Check.due("won behind", play.books.gameOf(game, 1), 0);
        }
        play.buy(2);
        pays(play.books, 0, 0, 0, 0);
    }

    @Sentence("no card is bought,")
    static void noCardIsBought() {
        Play play = new Play().bought(3);
        play.end();
        Check.due("bought cards", play.books.count(2), 0);
        for (int card = 0; card < 3; card++) {
            Check.due("the card " + card, play.books.cardOf(card, 2), 0);
        }
        Check.due("a number can be taken out", play.books.take(70), 2);
    }

    @Sentence("the cards stay.")
    static void theCardsStay() {
        Play play = new Play().bought(3);
        play.books.draw(90);
        play.end();
        Check.due("numbers", play.books.count(0), 45);
        Check.due("whole cards", play.books.count(1), 3);
        for (int card = 0; card < 3; card++) {
            for (int row = 0; row < 3; row++) {
                for (int number : Play.ROWS[card][row]) {
                    Check.due("card of " + number, play.books.numberOf(number, 0), card);
                    Check.due("row of " + number, play.books.numberOf(number, 1), row);
                }
            }
        }
    }
}
