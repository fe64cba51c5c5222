/** Promise 28. */
@Head("Promise 28: fullAt")
final class Promise28FullAt {
    private static final int NONE = TombolaBooks.NONE;

    private Promise28FullAt() {
    }

    private static void full(String what, TombolaBooks b, int card, int due) {
        Check.due(what + ": ball by ball", b.fullAt(card, 0), due);
        Check.due(what + ": by the greatest call", b.fullAt(card, 1), due);
    }

    private static void drawCard(Play play, int card) {
        for (int[] row : Play.ROWS[card]) {
            play.balls(row);
        }
    }

    @Sentence("Tells at which call of this evening a card would be full,")
    static void ofThisEvening() {
        Play play = new Play().wholeCards(1);
        play.books.draw(50);
        play.end();
        drawCard(play, 0);
        full("full already", play.books, 0, 15);
        Play late = new Play().wholeCards(2).balls(90);
        drawCard(late, 1);
        full("behind 90", late.books, 1, 16);
    }

    @Sentence("if balls are drawn until the drum is empty.")
    static void asTheyAreDrawn() {
        for (int x = 0; x < 10000; x += 1999) {
            TombolaBooks b = new Play().wholeCards(3).books;
            b.seed(x);
            int[] told = {b.fullAt(0, 0), b.fullAt(1, 0), b.fullAt(2, 0)};
            for (int call = 1; call <= 90; call++) {
                b.draw(1);
                for (int card = 0; card < 3; card++) {
                    boolean isFull = b.cardOf(card, 3) == 15;
                    Check.record(isFull == call >= told[card], "the card " + card + " at the call " + call);
                }
            }
        }
    }

    @Sentence("`card`: 0 to 5")
    static void card() {
        TombolaBooks b = new Play().fullBook().books;
        boolean isAt90 = false;
        for (int card = 0; card < 6; card++) {
            int call = b.fullAt(card, 0);
            Check.record(call >= 15 && call <= 90, "the card " + card + " at " + call);
            Check.due("the card " + card, b.fullAt(card, 1), call);
            isAt90 |= call == 90;
        }
        Check.record(isAt90, "no card has the last ball");
    }

    @Sentence("`what`: 0: told by drawing ball by ball;")
    static void ballByBall() {
        TombolaBooks b = new Play().wholeCards(1).books;
        int told = b.fullAt(0, 0);
        b.draw(told - 1);
        Check.due("one is missing", b.missing(0, 3, 0), 1);
        b.draw(1);
        Check.due("none is missing", b.missing(0, 3, 0), 0);
        Check.due("told behind it", b.fullAt(0, 0), told);
    }

    @Sentence("1: told by the greatest of the calls of its numbers in the order of all balls")
    static void byTheGreatestCall() {
        TombolaBooks b = new Play().wholeCards(1).books;
        b.draw(40);
        int told = b.fullAt(0, 1);
        b.draw(50);
        int greatest = 0;
        for (int[] row : Play.ROWS[0]) {
            for (int number : row) {
                greatest = Math.max(greatest, b.numberOf(number, 2));
            }
        }
        Check.due("the greatest call", greatest, told);
        Check.due("told behind all calls", b.fullAt(0, 1), told);
    }

    @Sentence("Returns the call, from 1 up, at which the last of its numbers is drawn")
    static void theCallOfTheLastNumber() {
        Play first = new Play().wholeCards(1);
        drawCard(first, 0);
        full("the first 15 balls", first.books, 0, 15);
        first.books.draw(75);
        full("behind the last call", first.books, 0, 15);
        // All other balls first: full at the last call.
        Play last = new Play().wholeCards(1);
        for (int number = 1; number <= 90; number++) {
            if (last.books.numberOf(number, 0) == NONE) {
                last.balls(number);
            }
        }
        full("15 balls are left", last.books, 0, 90);
        last.books.draw(15);
        full("none is left", last.books, 0, 90);
        // What is said does not matter, a number in place of another one does.
        Play play = new Play().wholeCards(1).slips(69);
        drawOthers(play, 69);
        full("all but 70", play.books, 0, 14 + aheadOf(play.books, 70));
        play.books.take(70);
        play.books.put(0, 2, 77);
        full("77 in place of 70", play.books, 0, 14 + aheadOf(play.books, 77));
    }

    /** All numbers of the card 0, but 70 and one more. */
    private static void drawOthers(Play play, int one) {
        for (int[] row : Play.ROWS[0]) {
            for (int number : row) {
                if (number != one && number != 70) {
                    play.balls(number);
                }
            }
        }
    }

    private static int aheadOf(TombolaBooks b, int number) {
        int ahead = 1;
        while (b.next(ahead) != number) {
            ahead++;
        }
        return ahead;
    }

    @Sentence("(the same for both);")
    static void theSameForBoth() {
        Play play = new Play().fullBook();
        for (int calls = 0; calls <= 90; calls += 10) {
            for (int card = 0; card < 6; card++) {
                Check.due("the card " + card, play.books.fullAt(card, 1), play.books.fullAt(card, 0));
            }
            if (calls < 90) {
                play.books.draw(10);
            }
        }
    }

    @Sentence("NONE if the card is not whole.")
    static void notWhole() {
        for (int[] row : Play.ROWS[0]) {
            TombolaBooks b = new Play().wholeCards(1).books;
            b.take(row[4]);
            full("14 numbers", b, 0, NONE);
            full("no number", b, 5, NONE);
            b.draw(90);
            full("14 numbers that were drawn", b, 0, NONE);
        }
    }

    @Sentence("Throws `IndexOutOfBoundsException` if there is no such card")
    static void noSuchCard() {
        for (int what = 0; what < 3; what++) {
            int which = what;
            Bounds.outside(0, 5, Bounds.PLACE, TombolaBooks::new, (b, card) -> b.fullAt(card, which));
        }
    }

    @Sentence("Throws `IllegalArgumentException` if what is not 0 or 1")
    static void whatOutOfRange() {
        Bounds.outside(0, 1, Bounds.VALUE, TombolaBooks::new, (b, what) -> b.fullAt(0, what));
        Bounds.outside(0, 1, Bounds.VALUE, () -> new Play().wholeCards(1).books, (b, what) -> b.fullAt(0, what));
    }
}
