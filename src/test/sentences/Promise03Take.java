/** Promise 3. */
@Head("Promise 3: take")
final class Promise03Take {
    private Promise03Take() {
    }

    @Sentence("Takes a number out of the book.")
    static void aNumberIsTakenOut() {
        TombolaBooks b = new TombolaBooks();
        b.put(5, 2, 90);
        b.put(5, 2, 1);
        b.take(90);
        Check.due("the place", b.at(5, 2, 8), 0);
        Check.due("the other number stays", b.at(5, 2, 0), 1);
        Check.due("its card", b.numberOf(90, 0), TombolaBooks.NONE);
        Check.due("its row", b.numberOf(90, 1), TombolaBooks.NONE);
        Check.due("numbers", b.count(0), 1);
        Check.due("it can be put again", b.put(0, 0, 90), 0);
        b.take(1);
        b.take(90);
        Check.due("nothing is left", b.count(0), 0);
    }

    @Sentence("Takes a number out of the book.")
    static void alsoOneThatWasDrawn() {
        Play play = new Play().wholeCards(2).buy(1).balls(3);
        Check.due("of a card that was not bought", play.books.take(3), 10);
        Check.due("it stays drawn", play.books.numberOf(3, 2), 1);
        Check.due("the card is not whole", play.books.cardOf(1, 1), 0);
    }

    @Sentence("Undoable.")
    static void undoable() {
        Probe.undoable("take", () -> Play.rich().books, b -> Check.due("take(7)", b.take(7), 51));
    }

    @Sentence("`number`: 1 to 90")
    static void number() {
        TombolaBooks b = new Play().fullBook().books;
        for (int number = 1; number <= 90; number++) {
            Check.record(b.take(number) >= 0, "take of " + number);
            Check.due("numbers left", b.count(0), 90 - number);
        }
    }

    @Sentence("Returns 10 times its card, and its row.")
    static void returnsItsPlace() {
        for (int row = 0; row < 18; row++) {
            TombolaBooks b = new TombolaBooks();
            b.put(row / 3, row % 3, 45);
            Check.due("take of the row " + row, b.take(45), 10 * (row / 3) + row % 3);
        }
    }

    @Sentence("Throws `IllegalArgumentException` if number is out of range")
    static void numberOutOfRange() {
        Bounds.outside(1, 90, Bounds.VALUE, TombolaBooks::new, TombolaBooks::take);
        Bounds.outside(1, 90, Bounds.VALUE, () -> new Play().fullBook().books, TombolaBooks::take);
    }

    @Sentence("Throws `IllegalStateException` if it does not stand in the book,")
    static void itDoesNotStandInTheBook() {
        for (int number = 1; number <= 90; number++) {
            int each = number;
            Bounds.thrown("take of " + number, Bounds.STATE, new TombolaBooks(), b -> b.take(each));
        }
        TombolaBooks b = new TombolaBooks();
        b.put(0, 0, 1);
        b.take(1);
        Bounds.thrown("take once more", Bounds.STATE, b, each -> each.take(1));
    }

    @Sentence("or its card was bought")
    static void itsCardWasBought() {
        Play play = new Play().wholeCards(2).buy(1);
        for (int[] row : Play.ROWS[0]) {
            for (int number : row) {
                Bounds.thrown("take of " + number, Bounds.STATE, play.books, b -> b.take(number));
            }
        }
        Check.due("of the other card", play.books.take(89), 12);
        play.end();
        Check.due("when it is bought no more", play.books.take(90), 1);
    }
}
