/** Promise 1. */
@Head("Promise 1: A new object")
final class Promise01NewObject {
    private Promise01NewObject() {
    }

    @Sentence("Creates a book of empty cards,")
    static void emptyCards() {
        TombolaBooks b = new TombolaBooks();
        for (int place = 0; place < 162; place++) {
            Check.due("place " + place, b.at(place / 27, place / 9 % 3, place % 9), 0);
        }
        for (int number = 1; number <= 90; number++) {
            Check.due("the card of " + number, b.numberOf(number, 0), TombolaBooks.NONE);
        }
        for (int card = 0; card < 6; card++) {
            Check.due("numbers of the card " + card, b.cardOf(card, 0), 0);
        }
        Check.due("numbers in the book", b.count(0), 0);
        Check.due("whole cards", b.count(1), 0);
    }

    @Sentence("Creates a book")
    static void booksShareNothing() {
        TombolaBooks first = new TombolaBooks();
        long before = first.digest();
        Play other = new Play().wholeCards(1).set(1, 1).type("d1");
        other.books.keep(0);
        other.books.draw(5);
        Check.due("the digest beside another book", first.digest(), before);
        Check.due("the digest of one more", new TombolaBooks().digest(), before);
    }

    @Sentence("at the beginning of an evening,")
    static void theBeginningOfAnEvening() {
        TombolaBooks b = new TombolaBooks();
        int[] due = {0, 0, 0, 0, 0, 0, 0, 90, 0, 0, 0, 0, 0, 1, 0};
        for (int what = 0; what < 15; what++) {
            Check.due("count(" + what + ")", b.count(what), due[what]);
        }
        for (int number = 1; number <= 90; number++) {
            Check.due("call of " + number, b.numberOf(number, 2), 0);
            Check.due("said " + number, b.numberOf(number, 3), 0);
        }
        for (int game = 0; game < 4; game++) {
            for (int what = 0; what < 4; what++) {
                Check.due("the game " + game, b.gameOf(game, what), 0);
            }
        }
        Check.due("the latest call", b.call(0, 0), TombolaBooks.NONE);
        Check.due("the price", b.setting(0), 10);
        Check.due("slips", b.setting(1), 0);
        Check.due("the last ball", b.setting(2), 0);
    }

    @Sentence("with empty slots")
    static void emptySlots() {
        TombolaBooks b = new TombolaBooks();
        Check.dueThrow("goBack(0)", Bounds.STATE, () -> b.goBack(0));
        Check.dueThrow("goBack(1)", Bounds.STATE, () -> b.goBack(1));
        Check.dueThrow("undo", Bounds.STATE, b::undo);
    }

    @Sentence("and an empty buffer.")
    static void emptyBuffer() {
        Check.due("clearBuffer", new TombolaBooks().clearBuffer(), 0);
        Check.due("firstError", new TombolaBooks().firstError(), 0);
        Check.due("append", new TombolaBooks().append('d'), 1);
        Check.dueThrow("run", Bounds.VALUE, () -> new TombolaBooks().run());
    }
}
