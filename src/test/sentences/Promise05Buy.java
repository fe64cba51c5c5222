/** Promise 5. */
@Head("Promise 5: buy")
final class Promise05Buy {
    private Promise05Buy() {
    }

    @Sentence("A card is bought.")
    static void aCardIsBought() {
        TombolaBooks b = new Play().wholeCards(3).books;
        b.buy(1);
        Check.due("the card 0", b.cardOf(0, 2), 0);
        Check.due("the card 1", b.cardOf(1, 2), 1);
        Check.due("the card 2", b.cardOf(2, 2), 0);
        Check.due("bought cards", b.count(2), 1);
    }

    @Sentence("Undoable.")
    static void undoable() {
        Probe.undoable("buy", () -> new Play().wholeCards(2).savedOnce().books, b -> b.buy(1));
    }

    @Sentence("`card`: 0 to 5")
    static void card() {
        Bounds.inside(0, 5, () -> new Play().fullBook().books, (b, card) -> {
            b.buy(card);
            return b.cardOf(card, 2);
        }, card -> 1);
    }

    @Sentence("Returns the coins in the pot then.")
    static void returnsThePot() {
        TombolaBooks b = new Play().fullBook().set(0, 99).books;
        for (int card = 0; card < 6; card++) {
            Check.due("the pot", b.buy(card), 99 * (card + 1));
            Check.due("the pot", b.count(3), 99 * (card + 1));
        }
        b.end();
        b.set(0, 1);
        Check.due("the pot of the next evening", b.buy(5), 1);
    }

    @Sentence("Throws `IndexOutOfBoundsException` if there is no such card")
    static void noSuchCard() {
        Bounds.outside(0, 5, Bounds.PLACE, () -> new Play().fullBook().books, TombolaBooks::buy);
        Bounds.outside(0, 5, Bounds.PLACE, TombolaBooks::new, TombolaBooks::buy);
    }

    @Sentence("Throws `IllegalStateException` if it was bought,")
    static void itWasBought() {
        Play play = new Play().wholeCards(2).buy(1);
        Bounds.thrown("once more", Bounds.STATE, play.books, b -> b.buy(0));
        Check.due("the other card", play.books.buy(1), 20);
        play.end();
        Check.due("in the next evening", play.books.buy(0), 10);
    }

    @Sentence("or is not whole,")
    static void itIsNotWhole() {
        for (int[] row : Play.ROWS[0]) {
            TombolaBooks b = new Play().wholeCards(1).books;
            b.take(row[0]);
            Bounds.thrown("without " + row[0], Bounds.STATE, b, each -> each.buy(0));
        }
        Bounds.thrown("an empty card", Bounds.STATE, new TombolaBooks(), b -> b.buy(5));
    }

    @Sentence("or a ball was drawn in this evening")
    static void aBallWasDrawn() {
        Play play = new Play().wholeCards(2);
        play.books.draw(1);
        Bounds.thrown("behind one call", Bounds.STATE, play.books, b -> b.buy(0));
        play.books.undo();
        Check.due("behind none", play.books.buy(0), 10);
        play.books.draw(90);
        Bounds.thrown("behind all calls", Bounds.STATE, play.books, b -> b.buy(1));
        play.end();
        Check.due("in the next evening", play.books.buy(1), 10);
    }
}
