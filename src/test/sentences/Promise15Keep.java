/** Promise 15. */
@Head("Promise 15: keep")
final class Promise15Keep {
    private Promise15Keep() {
    }

    @Sentence("Takes a snapshot,")
    static void aSnapshotIsTaken() {
        TombolaBooks b = new TombolaBooks();
        b.put(0, 0, 1);
        b.keep(0);
        b.put(0, 0, 11);
        b.draw(3);
        Check.due("goBack", b.goBack(0), 1);
        Check.due("calls", b.count(8), 0);
        TombolaBooks saved = Play.rich().books;
        saved.keep(0);
        Check.due("it saves no state", saved.count(14), 1);
    }

    @Sentence("in place of the one in the slot.")
    static void inPlaceOfTheOneBefore() {
        TombolaBooks b = new TombolaBooks();
        b.keep(0);
        b.keep(1);
        b.put(0, 0, 1);
        b.keep(0);
        b.put(0, 0, 11);
        b.keep(0);
        b.take(1);
        Check.due("the last one", b.goBack(0), 2);
        Check.due("the other slot stays", b.goBack(1), 0);
    }

    @Sentence("`slot`: 0 or 1")
    static void slot() {
        Bounds.inside(0, 1, TombolaBooks::new, (b, slot) -> {
            b.put(0, 0, 45);
            b.keep(slot);
            b.take(45);
            b.goBack(slot);
            return b.at(0, 0, 4);
        }, slot -> 45);
    }

    @Sentence("Returns how many numbers stand in the book.")
    static void returnsTheNumbersInTheBook() {
        Check.due("none", new TombolaBooks().keep(0), 0);
        TombolaBooks one = new TombolaBooks();
        one.put(5, 2, 90);
        Check.due("one", one.keep(1), 1);
        Check.due("all", new Play().fullBook().books.keep(0), 90);
    }

    @Sentence("Throws `IllegalArgumentException` if slot is out of range")
    static void slotOutOfRange() {
        Bounds.outside(0, 1, Bounds.VALUE, () -> Play.rich().books, TombolaBooks::keep);
    }
}
