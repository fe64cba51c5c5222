/** Promise 29. */
@Head("Promise 29: firstFull")
final class Promise29FirstFull {
    private Promise29FirstFull() {
    }

    @Sentence("Finds the card that is full first.")
    static void theFirstOne() {
        for (int card = 0; card < 3; card++) {
            Play play = new Play().wholeCards(3);
            for (int[] row : Play.ROWS[card]) {
                play.balls(row);
            }
            Check.due("full already", play.books.firstFull(), card);
            play.books.draw(75);
            Check.due("when all are full", play.books.firstFull(), card);
        }
    }

    @Sentence("Returns the whole card with the least fullAt();")
    static void theLeastFullAt() {
        boolean[] seen = new boolean[6];
        for (int x = 0; x < 10000; x += 333) {
            TombolaBooks b = new Play().fullBook().books;
            b.seed(x);
            int first = b.firstFull();
            for (int card = 0; card < 6; card++) {
                boolean isFirst = b.fullAt(card, 0) <= b.fullAt(first, 0);
                Check.record(isFirst == (card == first), "the card " + card + " with the lot " + x);
            }
            seen[first] = true;
        }
        for (int card = 0; card < 6; card++) {
            Check.record(seen[card], "the card " + card + " was never the first one");
        }
    }

    @Sentence("Returns the whole card")
    static void onlyAWholeCard() {
        Play play = new Play().wholeCards(3);
        for (int[] row : Play.ROWS[0]) {
            play.balls(row);
        }
        Check.due("full already", play.books.firstFull(), 0);
        play.books.take(70);
        int due = play.books.fullAt(1, 0) < play.books.fullAt(2, 0) ? 1 : 2;
        Check.due("with 14 numbers, all of which were drawn", play.books.firstFull(), due);
        TombolaBooks one = new Play().wholeCards(3).books;
        one.take(70);
        one.take(89);
        Check.due("the only one", one.firstFull(), 2);
    }

    @Sentence("NONE if no card is whole.")
    static void noneIsWhole() {
        Check.due("empty cards", new TombolaBooks().firstFull(), TombolaBooks.NONE);
        TombolaBooks b = new Play().wholeCards(1).books;
        b.take(70);
        Check.due("14 numbers", b.firstFull(), TombolaBooks.NONE);
        b.draw(90);
        Check.due("14 numbers that were drawn", b.firstFull(), TombolaBooks.NONE);
    }
}
