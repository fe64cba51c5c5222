/** The words ahead of the terms. */
@Head("Terms")
final class TermsNumbers {
    private TermsNumbers() {
    }

    @Sentence("All numbers are integers, but for a share;")
    static void aShareIsNoInteger() {
        Play play = new Play();
        play.books.put(0, 0, 1);
        play.books.put(0, 0, 90);
        play.balls(90);
        Check.record(play.books.drawnShare() == 0.5, "1 of 2 is not a half");
    }

    @Sentence("divisions are rounded down.")
    static void divisionsAreRoundedDown() {
        TombolaBooks b = new Play().wholeCards(1).set(0, 99).buy(1).books;
        b.draw(90);
        b.claim(0, 3);
        Check.due("40 hundredths of 99", b.gameOf(3, 3), 39);
        Check.due("the column of 19", new Play().wholeCards(2).books.at(1, 2, 1), 17);
    }
}
