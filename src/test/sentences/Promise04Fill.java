/** Promise 4. */
@Head("Promise 4: fill")
final class Promise04Fill {
    private Promise04Fill() {
    }

    private static int lotBehind(int x, int lots) {
        return lots == 0 ? x : lotBehind((x * 421 + 1663) % 10000, lots - 1);
    }

    @Sentence("Fills a card by lot.")
    static void aCardIsFilled() {
        TombolaBooks b = new TombolaBooks();
        b.fill(3, 2);
        Check.due("the first lot: 2084 of 90", b.at(3, 0, 1), 15);
        Check.due("the second lot: 9027 of 89", b.at(3, 0, 4), 40);
        Check.due("numbers of the card", b.cardOf(3, 0), 2);
        Check.due("numbers of the book", b.count(0), 2);
    }

    @Sentence("Undoable.")
    static void undoable() {
        Probe.undoable("a fill", () -> Play.rich().books, b -> Check.record(b.fill(5, 60) > 0, "fill"));
        Probe.undoable("a fill of a whole card", () -> Play.rich().books,
                b -> Check.due("fill", b.fill(2, 60), 0));
        Probe.undoable("a fill without a free number", () -> new Play().fullBook().savedOnce().books,
                b -> Check.due("fill", b.fill(0, 1), 0));
    }

    @Sentence("`card`: 0 to 5")
    static void card() {
        Bounds.inside(0, 5, TombolaBooks::new, (b, card) -> b.fill(card, 1) + b.cardOf(card, 0), card -> 2);
    }

    @Sentence("`many`: 1 to 60: how many lots are drawn")
    static void many() {
        Bounds.inside(1, 60, TombolaBooks::new, (b, many) -> {
            b.fill(0, many);
            return b.count(13);
        }, many -> lotBehind(1, many));
        Bounds.inside(1, 60, () -> new Play().wholeCards(1).books, (b, many) -> {
            b.fill(0, many);
            return b.count(13);
        }, many -> lotBehind(1, many));
    }

    @Sentence("(fewer, if no number is left that is not in the book)")
    static void fewerLots() {
        TombolaBooks full = new Play().fullBook().books;
        Check.due("no number is left", full.fill(0, 60), 0);
        Check.due("no lot is drawn", full.count(13), 1);
        TombolaBooks one = new Play().fullBook().books;
        int place = one.take(90);
        Check.due("one number is left", one.fill(place / 10, 60), 1);
        Check.due("one lot is drawn", one.count(13), lotBehind(1, 1));
        Check.due("90 stands again", one.numberOf(90, 0), place / 10);
        // The one that is left can stand nowhere in another card: it is drawn sixty times.
        TombolaBooks nowhere = new Play().fullBook().books;
        int other = nowhere.take(90) / 10 == 0 ? 1 : 0;
        Check.due("it cannot stand there", nowhere.fill(other, 60), 0);
        Check.due("sixty lots are drawn", nowhere.count(13), lotBehind(1, 60));
    }

    @Sentence("Returns how many numbers are put.")
    static void returnsHowManyArePut() {
        TombolaBooks b = new TombolaBooks();
        for (int many = 1; many <= 15; many++) {
            int before = b.cardOf(0, 0);
            int put = b.fill(0, many);
            Check.due("put by " + many + " lots", b.cardOf(0, 0), before + put);
            Check.due("in the book", b.count(0), b.cardOf(0, 0));
        }
        Check.due("into a whole card", new Play().wholeCards(1).books.fill(0, 60), 0);
        TombolaBooks almost = new Play().wholeCards(1).books;
        almost.take(70);
        almost.seed(Play.lotFor(70 - 13, 76));
        Check.due("as the fifteenth", almost.fill(0, 1), 1);
        Check.due("71 stands there", almost.at(0, 2, 7), 71);
    }

    @Sentence("Throws `IndexOutOfBoundsException` if there is no such card")
    static void noSuchCard() {
        Bounds.outside(0, 5, Bounds.PLACE, TombolaBooks::new, (b, card) -> b.fill(card, 1));
        Bounds.outside(0, 5, Bounds.PLACE, TombolaBooks::new, (b, card) -> b.fill(card, 61));
    }

    @Sentence("Throws `IllegalArgumentException` if many is out of range")
    static void manyOutOfRange() {
        Bounds.outside(1, 60, Bounds.VALUE, TombolaBooks::new, (b, many) -> b.fill(0, many));
        Bounds.outside(1, 60, Bounds.VALUE, () -> new Play().bought(1).books, (b, many) -> b.fill(0, many));
    }

    @Sentence("Throws `IllegalStateException` if the card was bought")
    static void theCardWasBought() {
        Play play = new Play().wholeCards(2).buy(1);
        Bounds.thrown("one lot", Bounds.STATE, play.books, b -> b.fill(0, 1));
        Bounds.thrown("sixty lots", Bounds.STATE, play.books, b -> b.fill(0, 60));
        Check.due("a card that was not bought", play.books.fill(1, 1), 0);
        play.end();
        Check.due("when it is bought no more", play.books.fill(0, 1), 0);
    }
}
