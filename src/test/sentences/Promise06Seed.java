/** Promise 6. */
@Head("Promise 6: seed")
final class Promise06Seed {
    private Promise06Seed() {
    }

    @Sentence("Changes the lot.")
    static void theLotIsChanged() {
        TombolaBooks b = new TombolaBooks();
        b.seed(4711);
        Check.due("the lot", b.count(13), 4711);
        Check.due("the next ball: (4711 * 421 + 1663) modulo 10000 is 4994, of 90 the rank 44", b.next(1), 45);
    }

    @Sentence("Undoable.")
    static void undoable() {
        Probe.undoable("seed", () -> Play.rich().books, b -> b.seed(9999));
        Probe.undoable("a seed that changes nothing", TombolaBooks::new, b -> b.seed(1));
    }

    @Sentence("`x`: 0 to 9999")
    static void x() {
        for (int x : new int[] {0, 1, 2, 4999, 9998, 9999}) {
            TombolaBooks b = new TombolaBooks();
            b.seed(x);
            Check.due("the lot", b.count(13), x);
        }
    }

    @Sentence("Returns the lot before.")
    static void returnsTheLotBefore() {
        TombolaBooks b = new TombolaBooks();
        Check.due("at first", b.seed(9999), 1);
        Check.due("the greatest", b.seed(0), 9999);
        Check.due("the least", b.seed(0), 0);
        b.draw(1);
        Check.due("behind a draw", b.seed(0), 1663);
    }

    @Sentence("Throws `IllegalArgumentException` if x is out of range")
    static void xOutOfRange() {
        Bounds.outside(0, 9999, Bounds.VALUE, TombolaBooks::new, TombolaBooks::seed);
    }
}
