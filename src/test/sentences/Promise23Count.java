/** Promise 23. */
@Head("Promise 23: count")
final class Promise23Count {
    private Promise23Count() {
    }

    private static void due(String what, TombolaBooks b, int which, int due) {
        Check.due(what, b.count(which), due);
    }

    @Sentence("Returns a number.")
    static void ofARichBook() {
        TombolaBooks b = Play.rich().books;
        int[] due = {46, 3, 2, 60, 120, 6, 54, 78, 12, 3, 2, 2, 1, b.count(13), 1};
        for (int what = 0; what < 15; what++) {
            due("count(" + what + ")", b, what, due[what]);
        }
    }

    @Sentence("`what`: 0: numbers in the book;")
    static void numbers() {
        TombolaBooks b = new Play().fullBook().books;
        due("all", b, 0, 90);
        for (int left = 89; left >= 0; left--) {
            b.take(left + 1);
            due("left", b, 0, left);
        }
    }

    @Sentence("1: whole cards;")
    static void wholeCards() {
        TombolaBooks b = new Play().fullBook().books;
        due("all", b, 1, 6);
        for (int card = 0; card < 6; card++) {
            b.take(Play.FULL[card][card % 3][0]);
            due("left", b, 1, 5 - card);
        }
    }

    @Sentence("2: cards that were bought;")
    static void boughtCards() {
        Play play = new Play().fullBook();
        due("none", play.books, 2, 0);
        for (int card = 5; card >= 0; card--) {
            play.books.buy(card);
            due("bought", play.books, 2, 6 - card);
        }
        play.end();
        due("in the next evening", play.books, 2, 0);
    }

    @Sentence("3: the pot;")
    static void thePot() {
        Play play = new Play().fullBook().set(0, 99);
        due("empty", play.books, 3, 0);
        play.buy(6);
        due("full", play.books, 3, 594);
        play.books.draw(90);
        play.books.claim(0, 3);
        due("a game that is won is not yet paid", play.books, 3, 594);
        play.end();
        due("in the next evening", play.books, 3, 0);
    }

    @Sentence("4: coins that came in so far;")
    static void coinsThatCameIn() {
        Play play = new Play().fullBook();
        due("none", play.books, 4, 0);
        for (int evening = 1; evening <= 4; evening++) {
            play.buy(6);
            due("in " + evening + " evenings", play.books, 4, 60 * evening);
            play.end();
            due("behind " + evening + " evenings", play.books, 4, 60 * evening);
        }
    }

    @Sentence("5: coins paid to cards so far;")
    static void coinsPaid() {
        Play play = new Play().wholeCards(2);
        for (int evening = 1; evening <= 3; evening++) {
            play.buy(2);
            play.books.draw(90);
            play.books.claim(0, 3);
            play.books.claim(1, 3);
            play.books.claim(1, 2);
            due("not yet paid", play.books, 5, 12 * (evening - 1));
            play.end();
            due("behind " + evening + " evenings", play.books, 5, 12 * evening);
        }
    }

    @Sentence("6: coins that the house got so far;")
    static void coinsOfTheHouse() {
        Play play = new Play().wholeCards(2);
        due("none", play.books, 6, 0);
        play.buy(2);
        play.end();
        due("all", play.books, 6, 20);
        play.buy(2);
        play.books.draw(90);
        play.books.claim(0, 3);
        due("not before the end", play.books, 6, 20);
        play.end();
        due("the rest", play.books, 6, 32);
        play.end();
        due("nothing more", play.books, 6, 32);
    }

    @Sentence("7: balls in the drum;")
    static void balls() {
        Play play = new Play();
        for (int left = 90; left >= 1; left--) {
            due("balls", play.books, 7, left);
            play.books.draw(1);
        }
        due("none", play.books, 7, 0);
        play.end();
        due("in the next evening", play.books, 7, 90);
    }

    @Sentence("8: calls in this evening;")
    static void calls() {
        Play play = new Play();
        for (int calls = 0; calls < 90; calls++) {
            due("calls", play.books, 8, calls);
            play.books.draw(1);
        }
        due("all", play.books, 8, 90);
        play.end();
        due("in the next evening", play.books, 8, 0);
    }

    @Sentence("9: slips in this evening;")
    static void slips() {
        Play play = new Play().set(1, 1);
        for (int calls = 0; calls < 90; calls++) {
            due("slips", play.books, 9, calls);
            play.books.draw(1);
        }
        due("all", play.books, 9, 90);
        play.end();
        due("in the next evening", play.books, 9, 0);
        play.set(1, 90);
        play.books.draw(89);
        due("before the 90th call", play.books, 9, 0);
        play.books.draw(1);
        due("the 90th call", play.books, 9, 1);
    }

    @Sentence("10: claims that won so far;")
    static void claimsThatWon() {
        Play play = new Play().fullBook();
        for (int evening = 1; evening <= 2; evening++) {
            play.buy(6);
            play.books.draw(90);
            for (int card = 0; card < 6; card++) {
                due("won", play.books, 10, 6 * (evening - 1) + card);
                play.books.claim(card, 0);
                play.books.claim(card, 0);
            }
            play.end();
            due("behind " + evening + " evenings", play.books, 10, 6 * evening);
        }
    }

    @Sentence("11: claims that were turned down so far;")
    static void claimsThatWereTurnedDown() {
        Play play = new Play().fullBook();
        for (int evening = 1; evening <= 2; evening++) {
            play.buy(6);
            for (int card = 0; card < 6; card++) {
                due("turned down", play.books, 11, 6 * (evening - 1) + card);
                play.books.claim(card, 3);
            }
            play.end();
            due("behind " + evening + " evenings", play.books, 11, 6 * evening);
        }
        Check.dueThrow("a card that was not bought", Bounds.STATE, () -> play.books.claim(0, 0));
        due("that is no claim", play.books, 11, 12);
    }

    @Sentence("12: evenings that ended so far;")
    static void evenings() {
        TombolaBooks b = new TombolaBooks();
        for (int evenings = 0; evenings < 20; evenings++) {
            due("evenings", b, 12, evenings);
            b.end();
        }
        b.undo();
        due("behind undo", b, 12, 19);
    }

    @Sentence("13: the lot;")
    static void theLot() {
        TombolaBooks b = new TombolaBooks();
        due("at first", b, 13, 1);
        b.draw(1);
        due("behind a ball", b, 13, 2084);
        b.fill(0, 1);
        due("behind a fill", b, 13, 9027);
        b.end();
        due("behind an evening", b, 13, 9027);
        b.seed(0);
        due("the least", b, 13, 0);
        b.seed(9999);
        due("the greatest", b, 13, 9999);
    }

    @Sentence("14: saved states")
    static void savedStates() {
        TombolaBooks b = new TombolaBooks();
        for (int calls = 0; calls < 9; calls++) {
            due("saved", b, 14, Math.min(6, calls));
            b.seed(calls);
        }
        for (int left = 5; left >= 0; left--) {
            b.undo();
            due("left", b, 14, left);
        }
    }

    @Sentence("Returns the number.")
    static void returnsEachNumber() {
        TombolaBooks b = Play.rich().books;
        int[] due = {46, 3, 2, 60, 120, 6, 54, 78, 12, 3, 2, 2, 1, b.count(13), 1};
        Bounds.inside(0, 14, () -> b, TombolaBooks::count, what -> due[what]);
    }

    @Sentence("Throws `IllegalArgumentException` if what is not 0 to 14")
    static void whatOutOfRange() {
        Bounds.outside(0, 14, Bounds.VALUE, TombolaBooks::new, TombolaBooks::count);
        Bounds.outside(0, 14, Bounds.VALUE, () -> Play.rich().books, TombolaBooks::count);
    }
}
