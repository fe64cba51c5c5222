/** Promise 31. */
@Head("Promise 31: drawnShare")
final class Promise31DrawnShare {
    private Promise31DrawnShare() {
    }

    private static void share(String what, TombolaBooks b, double due) {
        long got = Double.doubleToRawLongBits(b.drawnShare());
        Check.due(what + ", as bits", got, Double.doubleToRawLongBits(due));
    }

    @Sentence("Returns how much of the book was drawn.")
    static void ofTheBookInThisEvening() {
        Play play = new Play();
        play.books.put(0, 0, 1);
        play.books.put(3, 1, 22);
        play.books.put(5, 2, 90);
        share("nothing", play.books, 0.0);
        play.balls(89, 2);
        share("nothing of the book", play.books, 0.0);
        play.slips(21);
        share("22 was said, not drawn", play.books, 0.0);
        play.slips(90);
        share("90 was drawn, not said", play.books, 1.0 / 3);
        play.end();
        share("in the next evening", play.books, 0.0);
    }

    @Sentence("Returns the numbers in the book that were drawn, as a double, divided by all in it;")
    static void dividedByAllInIt() {
        TombolaBooks b = new Play().fullBook().books;
        for (int calls = 0; calls <= 90; calls++) {
            share(calls + " of 90", b, (double) calls / 90);
            if (calls < 90) {
                b.draw(1);
            }
        }
        for (int all = 89; all >= 1; all--) {
            b.take(all + 1);
            share("all of " + all, b, 1.0);
        }
        TombolaBooks one = new TombolaBooks();
        one.put(0, 0, 15);
        share("none of 1", one, 0.0);
        one.draw(1);
        share("1 of 1", one, 1.0);
        one.put(5, 2, 16);
        one.put(5, 2, 26);
        share("1 of 3", one, 1.0 / 3);
    }

    @Sentence("0.0 without any.")
    static void withoutAny() {
        share("an empty book", new TombolaBooks(), 0.0);
        TombolaBooks b = new TombolaBooks();
        b.draw(90);
        share("an empty book, all drawn", b, 0.0);
        b.put(0, 0, 1);
        b.take(1);
        share("taken out", b, 0.0);
    }
}
