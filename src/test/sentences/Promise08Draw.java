/** Promise 8. */
@Head("Promise 8: draw")
final class Promise08Draw {
    private Promise08Draw() {
    }

    @Sentence("Draws balls.")
    static void ballsAreDrawn() {
        TombolaBooks b = new TombolaBooks();
        int[] told = new int[91];
        for (int ahead = 1; ahead <= 90; ahead++) {
            told[ahead] = b.next(ahead);
        }
        b.draw(1);
        b.draw(44);
        b.draw(45);
        for (int call = 1; call <= 90; call++) {
            Check.due("the call " + call, b.call(90 - call, 0), told[call]);
        }
        Check.due("balls in the drum", b.count(7), 0);
    }

    @Sentence("Undoable, as one call.")
    static void undoableAsOneCall() {
        Probe.undoable("one ball", () -> Play.rich().books, b -> b.draw(1));
        Probe.undoable("the last 78 balls", () -> Play.rich().books, b -> b.draw(78));
        Probe.undoable("all balls", TombolaBooks::new, b -> b.draw(90));
    }

    @Sentence("`balls`: 1 to 90")
    static void balls() {
        Bounds.inside(1, 90, TombolaBooks::new, (b, balls) -> {
            b.draw(balls);
            return b.count(8);
        }, balls -> balls);
    }

    @Sentence("Returns the number that was drawn last.")
    static void returnsTheLastNumber() {
        TombolaBooks b = new TombolaBooks();
        Check.due("one ball", b.draw(1), 15);
        Check.due("one more", b.draw(1), 40);
        Check.due("two at once", new TombolaBooks().draw(2), 40);
        int last = b.next(88);
        Check.due("the last of all", b.draw(88), last);
        Play slips = new Play().set(1, 1);
        slips.books.seed(Play.lotFor(89, 90));
        Check.due("drawn, not said", slips.books.draw(1), 90);
    }

    @Sentence("Throws `IllegalArgumentException` if balls is out of range")
    static void ballsOutOfRange() {
        Bounds.outside(1, 90, Bounds.VALUE, TombolaBooks::new, TombolaBooks::draw);
        TombolaBooks b = new TombolaBooks();
        b.draw(90);
        Bounds.outside(1, 90, Bounds.VALUE, () -> b, TombolaBooks::draw);
    }

    @Sentence("Throws `IllegalStateException` if there are not so many in the drum")
    static void notSoManyInTheDrum() {
        TombolaBooks b = new TombolaBooks();
        for (int left = 90; left >= 1; left--) {
            int more = Math.min(90, left + 1);
            if (left < 90) {
                Bounds.thrown(more + " of " + left, Bounds.STATE, b, each -> each.draw(more));
            }
            b.draw(1);
        }
        Bounds.thrown("1 of none", Bounds.STATE, b, each -> each.draw(1));
        Bounds.thrown("90 of none", Bounds.STATE, b, each -> each.draw(90));
        b.end();
        Check.record(b.draw(90) > 0, "90 in the next evening");
    }
}
