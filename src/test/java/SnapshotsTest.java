import java.util.function.IntSupplier;

/** Promises 15 to 17: keep, goBack, undo. */
public final class SnapshotsTest {
    public static void main(String[] args) {
        slots();
        goBackCanBeUndone();
        undoesEachMethod();
        atMostSixStates();
        whatIsNotSaved();
        refusedCallsAreSaved();
        Check.finish();
    }

    private static void slots() {
        Play play = new Play().wholeCards(1);
        TombolaBooks b = play.books;
        Check.due("keep(0)", b.keep(0), 15);
        b.take(70);
        Check.due("keep(1)", b.keep(1), 14);
        b.take(69);
        Check.due("goBack(0)", b.goBack(0), 15);
        Check.due("70 stands", b.at(0, 2, 7), 70);
        Check.due("goBack(1)", b.goBack(1), 14);
        Check.due("goBack(0): the snapshot stays", b.goBack(0), 15);
        b.take(1);
        b.take(12);
        Check.due("keep(0) in place of it", b.keep(0), 13);
        b.end();
        b.set(0, 50);
        Check.due("goBack(0)", b.goBack(0), 13);
        Check.due("counts go back too", b.count(12), 0);
        Check.due("settings go back too", b.setting(0), 10);
        Check.dueThrow("keep(2)", IllegalArgumentException.class, () -> b.keep(2));
        Check.dueThrow("keep(-1)", IllegalArgumentException.class, () -> b.keep(-1));
        Check.dueThrow("goBack(2)", IllegalArgumentException.class, () -> b.goBack(2));
        Check.dueThrow("goBack(-1)", IllegalArgumentException.class, () -> b.goBack(-1));
    }

    private static void goBackCanBeUndone() {
        Play play = new Play();
        TombolaBooks b = play.books;
        b.keep(1);
        b.put(0, 0, 1);
        b.append('x');
        Check.due("keep is not saved", b.count(14), 1);
        Check.due("goBack(1)", b.goBack(1), 0);
        Check.due("it is saved, and what was saved stays", b.count(14), 2);
        Check.due("undo", b.undo(), 1);
        Check.due("1 stands again", b.at(0, 0, 0), 1);
        Check.due("undo", b.undo(), 0);
        Check.due("and stands no more", b.at(0, 0, 0), 0);
        Check.dueThrow("undo of none", IllegalStateException.class, b::undo);
        Check.due("the buffer stays", b.clearBuffer(), 1);
        Check.due("the slot stays", b.goBack(1), 0);
    }

    /** A book in the middle of an evening, with five saved states. */
    private static TombolaBooks rich() {
        TombolaBooks b = new TombolaBooks();
        b.seed(5);
        b.fill(0, 60);
        b.fill(1, 30);
        b.buy(0);
        b.draw(40);
        return b;
    }

    private static void undone(String what, TombolaBooks b, IntSupplier call) {
        b.keep(0);
        int before = b.count(14);
        long digest = b.digest();
        call.getAsInt();
        Check.due(what + " is saved", b.count(14), before + 1);
        Check.record(b.digest() != digest, what + " changes the digest");
        Check.due("undo of " + what, b.undo(), before);
        Check.due("digest behind undo of " + what, b.digest(), digest);
    }

    private static void undoesEachMethod() {
        TombolaBooks b = rich();
        int number = 1;
        while (b.numberOf(number, 0) != 1) {
            number++;
        }
        int ofCardOne = number;
        undone("put", b, () -> b.put(4, 0, 4));
        undone("take", b, () -> b.take(ofCardOne));
        undone("fill", b, () -> b.fill(4, 10));
        undone("seed", b, () -> b.seed(77));
        undone("set", b, () -> b.set(0, 77));
        undone("draw", b, () -> b.draw(30));
        undone("claim", b, () -> b.claim(0, 0));
        undone("end", b, b::end);
        undone("goBack", b, () -> b.goBack(0));
        b.append('d');
        b.append('3');
        undone("run", b, () -> {
            int done = b.run();
            b.append('d');
            b.append('3');
            return done;
        });
        TombolaBooks c = new TombolaBooks();
        c.seed(5);
        c.fill(0, 60);
        undone("buy", c, () -> c.buy(0));
    }

    private static void atMostSixStates() {
        TombolaBooks b = new TombolaBooks();
        for (int x = 100; x < 110; x++) {
            b.seed(x);
            Check.due("saved", b.count(14), Math.min(6, x - 99));
        }
        for (int left = 5; left >= 0; left--) {
            Check.due("undo", b.undo(), left);
            Check.due("the lot", b.count(13), 103 + left);
        }
        Check.dueThrow("the oldest ones were dropped", IllegalStateException.class, b::undo);
        b.seed(5);
        Check.due("undo behind all that", b.undo(), 0);
        Check.due("the lot", b.count(13), 103);
    }

    private static void whatIsNotSaved() {
        TombolaBooks b = new TombolaBooks();
        b.append('p');
        b.clearBuffer();
        b.keep(0);
        b.firstError();
        b.digest();
        b.whyNot(0, 0, 1);
        b.firstFull();
        b.next(1);
        Check.due("saved", b.count(14), 0);
    }

    private static void refusedCallsAreSaved() {
        TombolaBooks b = new TombolaBooks();
        b.put(0, 0, 1);
        b.put(1, 0, 1);
        Check.due("a refused put", b.count(14), 2);
        b.seed(1);
        Check.due("a seed that changes nothing", b.count(14), 3);
        b.set(2, 0);
        Check.due("a set that changes nothing", b.count(14), 4);
        b.end();
        Check.due("an end of nothing", b.count(14), 5);
        Check.dueThrow("put of 91", IllegalArgumentException.class, () -> b.put(0, 0, 91));
        Check.due("a call that throws is not saved", b.count(14), 5);
        TombolaBooks c = rich();
        int ofCardZero = 1;
        while (c.numberOf(ofCardZero, 0) != 0) {
            ofCardZero++;
        }
        int bought = ofCardZero;
        Check.dueThrow("take", IllegalStateException.class, () -> c.take(bought));
        Check.due("nor is a take that throws", c.count(14), 5);
        c.end();
        int lot = c.count(13);
        Check.due("a fill that puts nothing", c.fill(0, 3), 0);
        c.undo();
        Check.due("is saved for its lots", c.count(13), lot);
    }
}
