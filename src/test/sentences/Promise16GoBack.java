/** Promise 16. */
@Head("Promise 16: goBack")
final class Promise16GoBack {
    private Promise16GoBack() {
    }

    private static TombolaBooks richAndFurther() {
        TombolaBooks b = Play.rich().books;
        b.end();
        b.take(7);
        return b;
    }

    @Sentence("Goes back to a snapshot,")
    static void backToASnapshot() {
        TombolaBooks b = richAndFurther();
        b.goBack(1);
        Check.due("evenings", b.count(12), 1);
        Check.due("7 stands again", b.at(5, 1, 0), 7);
        Check.due("calls", b.count(8), 12);
        Check.due("the lot", b.count(13), Play.rich().books.count(13));
        Check.due("the price", b.setting(0), 30);
    }

    @Sentence("which stays.")
    static void theSnapshotStays() {
        TombolaBooks b = new TombolaBooks();
        b.put(0, 0, 1);
        b.keep(1);
        for (int number = 11; number <= 41; number += 10) {
            b.put(0, 0, number);
            b.draw(20);
            Check.due("goBack", b.goBack(1), 1);
            Check.due("calls", b.count(8), 0);
        }
    }

    @Sentence("Undoable.")
    static void undoable() {
        Probe.undoable("goBack", Promise16GoBack::richAndFurther, b -> b.goBack(1));
        Probe.undoable("goBack to the same", () -> Play.rich().books, b -> b.goBack(1));
    }

    @Sentence("`slot`: 0 or 1")
    static void slot() {
        Bounds.inside(0, 1, () -> {
            TombolaBooks b = new TombolaBooks();
            b.keep(0);
            b.put(0, 0, 1);
            b.keep(1);
            b.put(0, 0, 11);
            return b;
        }, TombolaBooks::goBack, slot -> slot);
    }

    @Sentence("Returns how many numbers stand in the book then.")
    static void returnsTheNumbersInTheBook() {
        Play play = new Play().fullBook();
        play.books.keep(0);
        play.books.take(90);
        play.books.keep(1);
        Check.due("all", play.books.goBack(0), 90);
        Check.due("all but one", play.books.goBack(1), 89);
        TombolaBooks b = new TombolaBooks();
        b.keep(0);
        b.put(0, 0, 1);
        Check.due("none", b.goBack(0), 0);
    }

    @Sentence("Throws `IllegalArgumentException` if slot is out of range")
    static void slotOutOfRange() {
        Bounds.outside(0, 1, Bounds.VALUE, TombolaBooks::new, TombolaBooks::goBack);
        Bounds.outside(0, 1, Bounds.VALUE, () -> Play.rich().books, TombolaBooks::goBack);
    }

    @Sentence("Throws `IllegalStateException` if there is no snapshot in it")
    static void noSnapshotInIt() {
        for (int slot = 0; slot < 2; slot++) {
            int which = slot;
            TombolaBooks b = new TombolaBooks();
            Bounds.thrown("an empty slot", Bounds.STATE, b, each -> each.goBack(which));
            b.keep(1 - slot);
            Bounds.thrown("beside a snapshot", Bounds.STATE, b, each -> each.goBack(which));
            b.keep(slot);
            Check.due("a snapshot of nothing is one", b.goBack(slot), 0);
        }
    }
}
