/** Promise 19. The rows of the card 0: 1 12 23 34 45, 13 24 46 57 90, 2 14 58 69 70. */
@Head("Promise 19: cardOf")
final class Promise19CardOf {
    private Promise19CardOf() {
    }

    private static void due(String what, TombolaBooks b, int property, int due) {
        Check.due(what, b.cardOf(0, property), due);
    }

    @Sentence("Returns a property of a card.")
    static void ofOneCard() {
        TombolaBooks b = Play.rich().books;
        int[][] due = {
            {15, 1, 1, 7, 7, 1, 0, 6, 1},
            {15, 1, 1, 5, 4, 1, 1, 0, 1},
            {15, 1, 0, 0, 1, 0, 0, 0, 0},
            {0, 0, 0, 0, 0, 0, 0, 0, 0},
        };
        for (int card = 0; card < due.length; card++) {
            for (int what = 0; what < 9; what++) {
                Check.due("card " + card + ", property " + what, b.cardOf(card, what), due[card][what]);
            }
        }
        Check.due("numbers of the card 5", b.cardOf(5, 0), 1);
    }

    @Sentence("`card`: 0 to 5")
    static void card() {
        Bounds.inside(0, 5, () -> new Play().fullBook().books, (b, card) -> {
            b.buy(card);
            return b.cardOf(card, 2) + b.cardOf((card + 1) % 6, 2);
        }, card -> 1);
    }

    @Sentence("`what`: 0: its numbers, how many;")
    static void numbers() {
        TombolaBooks b = new Play().wholeCards(1).books;
        int left = 15;
        for (int[] row : Play.ROWS[0]) {
            for (int number : row) {
                due("numbers", b, 0, left);
                b.take(number);
                left--;
            }
        }
        due("no number", b, 0, 0);
    }

    @Sentence("1: 1 if it is whole, otherwise 0;")
    static void whole() {
        TombolaBooks b = new Play().wholeCards(1).books;
        due("15 numbers", b, 1, 1);
        b.take(70);
        due("14 numbers", b, 1, 0);
        b.put(0, 2, 71);
        due("15 numbers again", b, 1, 1);
        due("no number", new TombolaBooks(), 1, 0);
    }

    @Sentence("2: 1 if it was bought, otherwise 0;")
    static void bought() {
        Play play = new Play().wholeCards(2);
        due("whole", play.books, 2, 0);
        play.books.buy(1);
        due("another card is bought", play.books, 2, 0);
        play.books.buy(0);
        due("bought", play.books, 2, 1);
        play.books.draw(90);
        due("behind the last call", play.books, 2, 1);
        play.end();
        due("in the next evening", play.books, 2, 0);
    }

    @Sentence("3: how many of its numbers were drawn,")
    static void drawn() {
        Play play = new Play().wholeCards(1);
        due("none", play.books, 3, 0);
        play.balls(1, 90, 89);
        due("two", play.books, 3, 2);
        play.slips(69, 33);
        due("by what was drawn, not said", play.books, 3, 3);
        play.books.draw(85);
        due("all", play.books, 3, 15);
        play.end();
        due("in the next evening", play.books, 3, 0);
    }

    @Sentence("4: said;")
    static void said() {
        Play play = new Play().wholeCards(1);
        due("none", play.books, 4, 0);
        play.slips(90, 33, 88);
        due("1 and 34 were said", play.books, 4, 2);
        play.balls(34, 1);
        due("twice, which counts once", play.books, 4, 2);
        play.books.draw(85);
        due("all but 90, which was drawn as a slip", play.books, 4, 14);
        play.end();
        due("in the next evening", play.books, 4, 0);
    }

    @Sentence("5: rows that have 5 numbers all of which were drawn;")
    static void drawnRows() {
        Play play = new Play().wholeCards(1).balls(1, 12, 23, 34, 13, 24, 46, 57);
        due("four of each", play.books, 5, 0);
        play.balls(45);
        due("one row", play.books, 5, 1);
        play.balls(90);
        due("two rows", play.books, 5, 2);
        play.slips(2).balls(14, 58, 69, 70);
        due("three rows, by what was drawn", play.books, 5, 3);
        play.books.take(70);
        due("a row of four that were drawn", play.books, 5, 2);
        play.books.put(0, 2, 71);
        due("71 was not drawn", play.books, 5, 2);
        TombolaBooks empty = new TombolaBooks();
        empty.draw(90);
        due("rows without numbers", empty, 5, 0);
    }

    @Sentence("5: rows that have 5 numbers all of which were drawn;")
    static void drawnRowsOfEachCard() {
        for (int row = 0; row < 18; row++) {
            TombolaBooks b = new Play().fullBook().balls(Play.FULL[row / 3][row % 3]).books;
            for (int card = 0; card < 6; card++) {
                Check.due("the row " + row + ", the card " + card, b.cardOf(card, 5), card == row / 3 ? 1 : 0);
                Check.due("drawn of the card " + card, b.cardOf(card, 3), card == row / 3 ? 5 : 0);
            }
        }
    }

    @Sentence("6: games that it won in this evening, as a mask;")
    static void games() {
        for (int game = 0; game < 4; game++) {
            Play play = new Play().bought(2);
            play.books.draw(90);
            play.books.claim(1, game);
            due("another card won", play.books, 6, 0);
            play.books.claim(0, game);
            due("one game", play.books, 6, 1 << game);
            play.books.claim(0, 3 - game);
            due("two games", play.books, 6, 1 << game | 1 << 3 - game);
            play.books.claim(0, game ^ 1);
            play.books.claim(0, 3 - game ^ 1);
            due("four games", play.books, 6, 15);
            play.end();
            due("in the next evening", play.books, 6, 0);
        }
    }

    @Sentence("7: coins that it won so far;")
    static void coins() {
        Play play = new Play().wholeCards(1).set(0, 99);
        due("none", play.books, 7, 0);
        int won = 0;
        for (int evening = 0; evening < 3; evening++) {
            play.buy(1);
            play.books.draw(90);
            play.books.claim(0, evening);
            due("not yet paid", play.books, 7, won);
            play.end();
            won += evening == 2 ? 19 : 9;
            due("paid", play.books, 7, won);
        }
        play.end();
        due("behind an evening without it", play.books, 7, 37);
    }

    @Sentence("8: claims of it that were turned down so far")
    static void turnedDown() {
        Play play = new Play().bought(2);
        due("none", play.books, 8, 0);
        play.books.claim(0, 0);
        play.books.claim(0, 3);
        play.books.claim(1, 3);
        due("two", play.books, 8, 2);
        play.books.draw(90);
        play.books.claim(0, 0);
        due("a claim that wins does not count", play.books, 8, 2);
        Check.dueThrow("a card that was not bought", Bounds.STATE, () -> play.books.claim(2, 0));
        play.end();
        due("it counts on", play.books, 8, 2);
        play.buy(1);
        play.books.claim(0, 1);
        due("three", play.books, 8, 3);
        Check.due("of the card 1", play.books.cardOf(1, 8), 1);
    }

    @Sentence("Returns the property.")
    static void returnsEachProperty() {
        TombolaBooks b = Play.rich().books;
        int[] due = {15, 1, 1, 7, 7, 1, 0, 6, 1};
        Bounds.inside(0, 8, () -> b, (each, what) -> each.cardOf(0, what), what -> due[what]);
    }

    @Sentence("Throws `IndexOutOfBoundsException` if there is no such card")
    static void noSuchCard() {
        Bounds.outside(0, 5, Bounds.PLACE, TombolaBooks::new, (b, card) -> b.cardOf(card, 0));
        Bounds.outside(0, 5, Bounds.PLACE, TombolaBooks::new, (b, card) -> b.cardOf(card, 8));
        Bounds.outside(0, 5, Bounds.PLACE, TombolaBooks::new, (b, card) -> b.cardOf(card, 9));
    }

    @Sentence("Throws `IllegalArgumentException` if what is not 0 to 8")
    static void whatOutOfRange() {
        Bounds.outside(0, 8, Bounds.VALUE, TombolaBooks::new, (b, what) -> b.cardOf(0, what));
        Bounds.outside(0, 8, Bounds.VALUE, () -> Play.rich().books, (b, what) -> b.cardOf(5, what));
    }
}
