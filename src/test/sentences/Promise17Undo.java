/** Promise 17. */
@Head("Promise 17: undo")
final class Promise17Undo {
    private Promise17Undo() {
    }

    @Sentence("Restores the latest saved state,")
    static void theLatestStateIsRestored() {
        TombolaBooks b = Play.rich().books;
        long before = b.digest();
        b.end();
        b.undo();
        Check.due("the digest", b.digest(), before);
        b.seed(5);
        long seeded = b.digest();
        b.take(7);
        b.undo();
        Check.due("the latest one first", b.digest(), seeded);
        b.undo();
        Check.due("then the one before", b.digest(), before);
    }

    @Sentence("and drops it.")
    static void itIsDropped() {
        TombolaBooks b = new TombolaBooks();
        b.seed(10);
        b.seed(11);
        b.undo();
        Check.due("saved", b.count(14), 1);
        b.undo();
        Check.due("not the same again", b.count(13), 1);
        Check.due("saved", b.count(14), 0);
        b.seed(12);
        b.undo();
        Check.due("a state saved behind undo", b.count(13), 1);
        // Undo is no call that can be undone.
        Check.dueThrow("undo of an undo", Bounds.STATE, b::undo);
    }

    @Sentence("Returns how many saved states are left.")
    static void returnsHowManyAreLeft() {
        for (int calls = 1; calls <= 9; calls++) {
            TombolaBooks b = new TombolaBooks();
            for (int i = 0; i < calls; i++) {
                b.end();
            }
            for (int left = Math.min(6, calls) - 1; left >= 0; left--) {
                Check.due("left", b.undo(), left);
            }
            Check.due("evenings", b.count(12), Math.max(0, calls - 6));
        }
    }

    @Sentence("Throws `IllegalStateException` if there is none")
    static void thereIsNone() {
        TombolaBooks b = new TombolaBooks();
        Bounds.thrown("of a new book", Bounds.STATE, b, TombolaBooks::undo);
        for (int i = 0; i < 7; i++) {
            b.seed(i);
        }
        for (int i = 0; i < 6; i++) {
            b.undo();
        }
        Bounds.thrown("behind six of them", Bounds.STATE, b, TombolaBooks::undo);
        Check.due("the lot stays", b.count(13), 0);
        b.seed(1);
        Check.due("when one is saved again", b.undo(), 0);
    }
}
