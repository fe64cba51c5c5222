/** Promise 20. */
@Head("Promise 20: numberOf")
final class Promise20NumberOf {
    private static final int NONE = TombolaBooks.NONE;

    private Promise20NumberOf() {
    }

    private static void due(TombolaBooks b, int number, int... due) {
        for (int what = 0; what < 4; what++) {
            Check.due("number " + number + ", property " + what, b.numberOf(number, what), due[what]);
        }
    }

    @Sentence("Returns a property of a number.")
    static void ofOneNumber() {
        Play play = new Play();
        play.books.put(5, 2, 90);
        play.books.put(0, 0, 1);
        play.slips(90).balls(45, 44);
        due(play.books, 90, 5, 2, 1, 0);
        due(play.books, 1, 0, 0, 0, 1);
        due(play.books, 45, NONE, NONE, 2, 1);
        due(play.books, 46, NONE, NONE, 0, 0);
    }

    @Sentence("`number`: 1 to 90")
    static void number() {
        Bounds.inside(1, 90, TombolaBooks::new, (b, number) -> {
            b.put(3, 1, number);
            return b.numberOf(number, 0) * 10 + b.numberOf(number, 1);
        }, number -> 31);
    }

    @Sentence("`what`: 0: its card,")
    static void itsCard() {
        TombolaBooks b = new Play().fullBook().books;
        for (int card = 0; card < 6; card++) {
            for (int[] row : Play.FULL[card]) {
                for (int number : row) {
                    Check.due("the card of " + number, b.numberOf(number, 0), card);
                }
            }
        }
    }

    @Sentence("1: its row,")
    static void itsRow() {
        TombolaBooks b = new Play().fullBook().books;
        for (int[][] card : Play.FULL) {
            for (int row = 0; row < 3; row++) {
                for (int number : card[row]) {
                    Check.due("the row of " + number, b.numberOf(number, 1), row);
                }
            }
        }
    }

    @Sentence("NONE for both if it does not stand in the book;")
    static void noneOfBoth() {
        TombolaBooks b = new TombolaBooks();
        for (int number = 1; number <= 90; number++) {
            Check.due("no card", b.numberOf(number, 0), NONE);
            Check.due("no row", b.numberOf(number, 1), NONE);
        }
        b.put(0, 0, 90);
        b.put(0, 0, 89);
        due(b, 89, NONE, NONE, 0, 0);
        b.take(90);
        due(b, 90, NONE, NONE, 0, 0);
    }

    @Sentence("2: the call at which it was drawn, from 1 up,")
    static void theCallOfIt() {
        TombolaBooks b = new TombolaBooks();
        b.draw(90);
        for (int call = 1; call <= 90; call++) {
            Check.due("the call", b.numberOf(b.call(90 - call, 0), 2), call);
        }
        b.end();
        Play play = new Play().slips(44, 45);
        Check.due("drawn, and said before", play.books.numberOf(45, 2), 2);
    }

    @Sentence("0 if it is in the drum;")
    static void inTheDrum() {
        Play play = new Play().slips(90);
        for (int number = 1; number <= 89; number++) {
            Check.due(number + " is in the drum", play.books.numberOf(number, 2), 0);
        }
        play.end();
        Check.due("90 in the next evening", play.books.numberOf(90, 2), 0);
    }

    @Sentence("3: how often it was said")
    static void howOftenItWasSaid() {
        Play play = new Play().slips(44);
        Check.due("once, for 44", play.books.numberOf(45, 3), 1);
        play.balls(45);
        Check.due("twice", play.books.numberOf(45, 3), 2);
        Check.due("drawn, not said", play.books.numberOf(44, 3), 0);
        play.slips(90).balls(1);
        Check.due("1 twice", play.books.numberOf(1, 3), 2);
        Check.due("90 never", play.books.numberOf(90, 3), 0);
        play.end();
        Check.due("in the next evening", play.books.numberOf(45, 3), 0);
    }

    @Sentence("Returns the property.")
    static void returnsEachProperty() {
        Play play = new Play();
        play.books.put(4, 2, 45);
        play.slips(44).balls(45);
        Bounds.inside(0, 3, () -> play.books, (b, what) -> b.numberOf(45, what), what -> what < 2 ? 4 - 2 * what : 2);
    }

    @Sentence("Throws `IllegalArgumentException` if number is out of range,")
    static void numberOutOfRange() {
        for (int what = 0; what < 4; what++) {
            int which = what;
            Bounds.outside(1, 90, Bounds.VALUE, TombolaBooks::new, (b, number) -> b.numberOf(number, which));
        }
        Bounds.outside(1, 90, Bounds.VALUE, TombolaBooks::new, (b, number) -> b.numberOf(number, 4));
    }

    @Sentence("or what is not 0 to 3")
    static void whatOutOfRange() {
        Bounds.outside(0, 3, Bounds.VALUE, TombolaBooks::new, (b, what) -> b.numberOf(1, what));
        Bounds.outside(0, 3, Bounds.VALUE, () -> Play.rich().books, (b, what) -> b.numberOf(90, what));
    }
}
