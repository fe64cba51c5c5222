/** Promise 10. */
@Head("Promise 10: end")
final class Promise10End {
    private Promise10End() {
    }

    @Sentence("The evening ends,")
    static void theEveningEnds() {
        Play play = new Play().bought(2);
        play.books.draw(90);
        play.end();
        Check.due("evenings that ended", play.books.count(12), 1);
        Check.due("calls", play.books.count(8), 0);
        Check.due("bought cards", play.books.count(2), 0);
        for (int evening = 2; evening <= 5; evening++) {
            play.end();
            Check.due("evenings that ended", play.books.count(12), evening);
        }
    }

    @Sentence("prizes are paid,")
    static void prizesArePaid() {
        Play play = new Play().wholeCards(2).set(0, 99).buy(2);
        play.books.draw(90);
        play.books.claim(0, 0);
        play.books.claim(1, 0);
        play.books.claim(1, 3);
        Check.due("not yet paid", play.books.count(5), 0);
        play.end();
        Check.due("to the card 0", play.books.cardOf(0, 7), 9);
        Check.due("to the card 1", play.books.cardOf(1, 7), 9 + 79);
        Check.due("paid", play.books.count(5), 97);
        play.end();
        Check.due("once", play.books.count(5), 97);
    }

    @Sentence("and it begins anew.")
    static void itBeginsAnew() {
        Play play = new Play().bought(2).set(1, 1).set(2, 1).set(0, 5);
        play.books.draw(90);
        int lot = play.books.count(13);
        play.end();
        int[] due = {30, 2, 0, 0, 20, 0, 20, 90, 0, 0, 0, 0, 1, lot, 6};
        for (int what = 0; what < 15; what++) {
            Check.due("count(" + what + ")", play.books.count(what), due[what]);
        }
        Check.due("the settings stay", play.books.setting(0) + play.books.setting(1) + play.books.setting(2), 7);
        Check.due("the pot of the next evening", play.books.buy(0), 5);
        Check.record(play.books.draw(90) > 0, "all balls are drawn again");
    }

    @Sentence("Undoable.")
    static void undoable() {
        Probe.undoable("end", () -> Play.rich().books, TombolaBooks::end);
        Probe.undoable("end of a new book", TombolaBooks::new, TombolaBooks::end);
    }

    @Sentence("Returns what the house got by it.")
    static void returnsWhatTheHouseGot() {
        Check.due("of an empty pot", new TombolaBooks().end(), 0);
        Play play = new Play().wholeCards(1).set(0, 99).buy(1);
        Check.due("without a call", play.end(), 99);
        play.buy(1);
        play.books.draw(90);
        play.books.claim(0, 3);
        Check.due("of this evening alone", play.end(), 60);
        Check.due("so far", play.books.count(6), 159);
        Check.due("of an evening without coins", play.end(), 0);
    }
}
