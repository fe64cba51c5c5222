import java.util.function.Consumer;

/** "Snapshots, undo". */
@Head("Snapshots, undo")
final class TermsSnapshots {
    private TermsSnapshots() {
    }

    private static TombolaBooks rich() {
        return Play.rich().books;
    }

    /** Brings the saved states to six, by calls that change nothing. */
    private static void saveSix(TombolaBooks b) {
        for (int i = 0; i < 6; i++) {
            b.set(2, b.setting(2));
        }
    }

    /** Changes all that is in a snapshot. */
    private static void changeAll(TombolaBooks b) {
        b.end();
        b.take(4);
        b.buy(0);
        b.set(1, 1);
        b.set(2, 1);
        b.draw(50);
        b.claim(0, 1);
        b.seed(4711);
        b.fill(5, 20);
    }

    @Sentence("There are two slots;")
    static void twoSlots() {
        TombolaBooks b = new TombolaBooks();
        b.keep(0);
        b.put(0, 0, 1);
        b.keep(1);
        b.put(0, 0, 11);
        Check.due("the slot 0", b.goBack(0), 0);
        Check.due("the slot 1", b.goBack(1), 1);
        Check.due("the slot 0 again", b.goBack(0), 0);
        Bounds.outside(0, 1, Bounds.VALUE, TombolaBooks::new, TombolaBooks::keep);
        Bounds.outside(0, 1, Bounds.VALUE, TombolaBooks::new, TombolaBooks::goBack);
    }

    @Sentence("a snapshot is all")
    static void aSnapshotIsAll() {
        TombolaBooks b = rich();
        b.keep(0);
        saveSix(b);
        long before = b.digest();
        long longAgo = b.call(11, 1);
        changeAll(b);
        Check.record(b.digest() != before, "all is changed");
        b.goBack(0);
        Check.due("the digest", b.digest(), before);
        Check.due("the first call", b.call(11, 1), longAgo);
    }

    /** A book of which all is full: cards, calls, slips, winners, and coins and claims of each card. */
    private static Play full() {
        Play play = new Play().fullBook().set(1, 1);
        for (int evening = 0; evening < 2; evening++) {
            play.set(0, 99).buy(6);
            for (int card = 0; card < 6; card++) {
                play.books.claim(card, 3);
            }
            play.books.draw(90);
            for (int card = 0; card < 6; card++) {
                for (int game = 0; game < 4; game++) {
                    play.books.claim(card, game);
                }
            }
            if (evening == 0) {
                play.end();
            }
        }
        return play;
    }

    @Sentence("a snapshot is all")
    static void aSnapshotIsAllOfAFullBook() {
        TombolaBooks b = full().books;
        b.keep(0);
        long before = b.digest();
        int first = b.call(89, 0);
        int[] last = {b.call(0, 0), b.call(0, 1)};
        for (int card = 0; card < 6; card++) {
            Check.due("a claim that is turned down", b.claim(card, 3), 2);
        }
        b.end();
        b.take(90);
        b.take(89);
        b.take(1);
        b.seed(1);
        b.draw(90);
        Check.record(b.call(0, 0) != last[0], "another ball is the last one");
        b.goBack(0);
        Check.due("the digest", b.digest(), before);
        Check.due("the first call", b.call(89, 0), first);
        Check.due("the last call", b.call(0, 0), last[0]);
        Check.due("what was said last", b.call(0, 1), last[1]);
    }

    @Sentence("but the buffer,")
    static void notTheBuffer() {
        Play play = new Play().type("d1");
        play.books.keep(0);
        play.type("d1d");
        play.books.goBack(0);
        Check.due("the buffer behind goBack", play.books.clearBuffer(), 3);
        play.books.goBack(0);
        Check.due("the buffer that was cleared", play.books.clearBuffer(), 0);
        play.books.seed(5);
        play.type("d1d1");
        play.books.undo();
        Check.due("the buffer behind undo", play.books.clearBuffer(), 4);
    }

    @Sentence("the slots")
    static void notTheSlots() {
        TombolaBooks b = new TombolaBooks();
        b.keep(0);
        b.put(0, 0, 1);
        b.keep(1);
        b.goBack(0);
        Check.due("the slot 1 was kept behind the snapshot", b.goBack(1), 1);
        b.put(0, 0, 11);
        b.keep(0);
        b.undo();
        Check.due("the slot 0 was kept behind the saved state", b.goBack(0), 2);
    }

    @Sentence("and the saved states.")
    static void notTheSavedStates() {
        TombolaBooks b = new TombolaBooks();
        b.seed(10);
        b.keep(0);
        b.seed(11);
        b.seed(12);
        b.goBack(0);
        Check.due("saved states", b.count(14), 4);
        Check.due("undo", b.undo(), 3);
        Check.due("the lot ahead of goBack", b.count(13), 12);
        b.undo();
        Check.due("one more", b.count(13), 11);
        b.undo();
        Check.due("and one more", b.count(13), 10);
        b.undo();
        Check.due("the first lot", b.count(13), 1);
    }

    private static void undoable(String what, Consumer<TombolaBooks> call) {
        Probe.undoable(what, TermsSnapshots::rich, call);
    }

    @Sentence("Each method that is marked \"undoable\" and does not throw an exception saves the state from "
            + "before it")
    static void eachUndoableMethod() {
        undoable("put", b -> b.put(5, 2, 8));
        undoable("take", b -> b.take(7));
        undoable("fill", b -> b.fill(5, 60));
        undoable("seed", b -> b.seed(9999));
        undoable("set", b -> b.set(0, 99));
        undoable("draw", b -> b.draw(78));
        undoable("claim", b -> Check.due("a claim", b.claim(0, 0), 0));
        undoable("end", TombolaBooks::end);
        undoable("run", b -> {
            b.append('d');
            b.append('9');
            Check.due("an order", b.run(), 1);
        });
        Probe.undoable("buy", () -> new Play().wholeCards(1).savedOnce().books, b -> b.buy(0));
        Probe.undoable("goBack", () -> {
            TombolaBooks b = rich();
            b.end();
            return b;
        }, b -> b.goBack(1));
    }

    @Sentence("Each method that is marked \"undoable\"")
    static void theOthersSaveNothing() {
        TombolaBooks b = rich();
        b.append('d');
        b.firstError();
        b.clearBuffer();
        b.keep(0);
        b.keep(1);
        Check.due("saved", b.count(14), 1);
        Check.due("undo saves nothing", b.undo(), 0);
        Check.due("saved", b.count(14), 0);
    }

    @Sentence("and does not throw an exception")
    static void whatThrowsSavesNothing() {
        TombolaBooks b = rich();
        Check.dueThrow("put", Bounds.VALUE, () -> b.put(0, 0, 91));
        Check.dueThrow("take", Bounds.STATE, () -> b.take(1));
        Check.dueThrow("fill", Bounds.STATE, () -> b.fill(0, 1));
        Check.dueThrow("buy", Bounds.STATE, () -> b.buy(2));
        Check.dueThrow("seed", Bounds.VALUE, () -> b.seed(10000));
        Check.dueThrow("set", Bounds.VALUE, () -> b.set(2, 2));
        Check.dueThrow("draw", Bounds.STATE, () -> b.draw(79));
        Check.dueThrow("claim", Bounds.STATE, () -> b.claim(2, 0));
        Check.dueThrow("run", Bounds.VALUE, b::run);
        Check.dueThrow("goBack", Bounds.STATE, () -> b.goBack(0));
        Check.due("saved", b.count(14), 1);
    }

    @Sentence("(also if it changes nothing, or is refused):")
    static void alsoWhatChangesNothing() {
        TombolaBooks b = new Play().fullBook().savedOnce().books;
        Check.due("a refused put", b.put(0, 0, 90), 1);
        Check.due("is saved", b.count(14), 2);
        Check.due("a fill without a free number", b.fill(0, 60), 0);
        Check.due("is saved", b.count(14), 3);
        b.seed(b.count(13));
        Check.due("a seed that changes nothing is saved", b.count(14), 4);
        b.set(0, b.setting(0));
        Check.due("a set that changes nothing is saved", b.count(14), 5);
        b.end();
        Check.due("an end of nothing is saved", b.count(14), 6);
        TombolaBooks other = new Play().fullBook().savedOnce().type("p0001").books;
        other.goBack(1);
        Check.due("a goBack that changes nothing is saved", other.count(14), 2);
        Check.due("a run of a refused order", other.run(), 0);
        Check.due("is saved", other.count(14), 3);
        TombolaBooks claimed = rich();
        Check.due("a claim that is turned down", claimed.claim(0, 3), 4);
        Check.due("is saved", claimed.count(14), 2);
    }

    @Sentence("all, also what is counted so far,")
    static void alsoWhatIsCountedSoFar() {
        TombolaBooks b = rich();
        int[] counts = new int[15];
        for (int what = 0; what < 15; what++) {
            counts[what] = b.count(what);
        }
        int coins = b.cardOf(0, 7);
        int turnedDown = b.cardOf(0, 8);
        b.claim(0, 0);
        b.claim(0, 1);
        b.end();
        b.buy(2);
        Check.record(b.count(12) > counts[12] && b.count(4) > counts[4] && b.count(5) > counts[5]
                && b.count(6) > counts[6] && b.count(10) > counts[10] && b.count(11) > counts[11]
                && b.cardOf(0, 7) > coins && b.cardOf(0, 8) > turnedDown, "all of it is changed");
        for (int i = 0; i < 4; i++) {
            b.undo();
        }
        for (int what = 0; what < 15; what++) {
            Check.due("count(" + what + ")", b.count(what), counts[what]);
        }
        Check.due("coins of the card", b.cardOf(0, 7), coins);
        Check.due("turned down of the card", b.cardOf(0, 8), turnedDown);
    }

    @Sentence("but the buffer, the slots and the saved states.")
    static void aRunsTextIsNotBroughtBack() {
        Play play = new Play().type("d1d2");
        play.books.run();
        play.books.keep(1);
        play.books.undo();
        Check.due("the buffer stays cleared", play.books.clearBuffer(), 0);
        play.books.goBack(1);
        Check.due("the slot stays", play.books.count(8), 3);
    }

    @Sentence("At most 6 states are saved;")
    static void sixStates() {
        TombolaBooks b = new TombolaBooks();
        for (int i = 1; i <= 20; i++) {
            b.seed(100 + i);
            Check.due("saved", b.count(14), Math.min(i, 6));
        }
        for (int left = 5; left >= 0; left--) {
            Check.due("undo", b.undo(), left);
        }
        Check.dueThrow("undo of none", Bounds.STATE, b::undo);
    }

    @Sentence("the oldest one is dropped first.")
    static void theOldestIsDropped() {
        for (int many = 6; many <= 14; many++) {
            TombolaBooks b = new TombolaBooks();
            for (int i = 1; i <= many; i++) {
                b.seed(100 + i);
            }
            for (int i = 1; i <= 6; i++) {
                b.undo();
                Check.due(i + " back of " + many, b.count(13), many == i ? 1 : 100 + many - i);
            }
            b.seed(50);
            b.seed(51);
            b.undo();
            Check.due("saved again", b.count(13), 50);
            b.undo();
            Check.due("saved again", b.count(13), many == 6 ? 1 : 100 + many - 6);
        }
    }
}
