/** "Cards". */
@Head("Cards")
final class TermsCards {
    private TermsCards() {
    }

    private static void reasons(TombolaBooks b, int card, int row, int due, int... numbers) {
        for (int number : numbers) {
            Check.due("whyNot(" + card + ", " + row + ", " + number + ")", b.whyNot(card, row, number), due);
        }
    }

    @Sentence("A book has 6 cards, numbered from 0;")
    static void sixCards() {
        Bounds.inside(0, 5, TombolaBooks::new, (b, card) -> b.put(card, 0, 45), card -> 0);
        Bounds.outside(0, 5, Bounds.PLACE, TombolaBooks::new, (b, card) -> b.put(card, 0, 45));
    }

    @Sentence("a card has 3 rows, numbered from 0 at the top,")
    static void threeRows() {
        Bounds.inside(0, 2, TombolaBooks::new, (b, row) -> b.put(0, row, 45), row -> 0);
        Bounds.outside(0, 2, Bounds.PLACE, TombolaBooks::new, (b, row) -> b.put(0, row, 45));
        TombolaBooks b = new TombolaBooks();
        b.put(0, 1, 45);
        reasons(b, 0, 0, 0, 44);
        reasons(b, 0, 0, 4, 46);
        reasons(b, 0, 2, 0, 46);
        reasons(b, 0, 2, 4, 44);
    }

    @Sentence("and 9 columns, numbered from 0.")
    static void nineColumns() {
        Bounds.inside(0, 8, TombolaBooks::new, (b, column) -> b.at(0, 0, column), column -> 0);
        Bounds.outside(0, 8, Bounds.PLACE, TombolaBooks::new, (b, column) -> b.at(0, 0, column));
        TombolaBooks b = new TombolaBooks();
        b.put(0, 0, 1);
        b.put(0, 0, 90);
        Check.due("the first column", b.at(0, 0, 0), 1);
        Check.due("the last column", b.at(0, 0, 8), 90);
    }

    @Sentence("The numbers are 1 to 90;")
    static void numbersFrom1To90() {
        Bounds.inside(1, 90, TombolaBooks::new, (b, number) -> b.put(0, 0, number), number -> 0);
        Bounds.outside(1, 90, Bounds.VALUE, TombolaBooks::new, (b, number) -> b.put(0, 0, number));
    }

    @Sentence("the column of a number is the number divided by 10, but 8 for 90.")
    static void columnOfANumber() {
        TombolaBooks b = new TombolaBooks();
        for (int number = 1; number <= 90; number++) {
            b.put(3, 1, number);
            Check.due("the column of " + number, b.at(3, 1, number == 90 ? 8 : number / 10), number);
            b.undo();
        }
    }

    @Sentence("A number stands in a row, in its column;")
    static void aNumberStandsInOnePlace() {
        TombolaBooks b = new TombolaBooks();
        b.put(2, 1, 37);
        for (int place = 0; place < 162; place++) {
            int due = place == (2 * 3 + 1) * 9 + 3 ? 37 : 0;
            Check.due("place " + place, b.at(place / 27, place / 9 % 3, place % 9), due);
        }
    }

    @Sentence("at first all cards are empty.")
    static void cardsAreEmptyAtFirst() {
        TombolaBooks b = new TombolaBooks();
        for (int place = 0; place < 162; place++) {
            Check.due("place " + place, b.at(place / 27, place / 9 % 3, place % 9), 0);
        }
        Check.due("numbers in the book", b.count(0), 0);
    }

    /** Rows of the card 0: 1 12 23 34 45, 13 24 46 57 90, 2 14 58 69 70. */
    @Sentence("A number cannot stand in a row of a card, for the first of these reasons that is so:")
    static void theFirstReasonIsTold() {
        TombolaBooks b = new Play().wholeCards(1).books;
        // 12 stands in the book; 13 is in its column, the row is full.
        reasons(b, 0, 1, 1, 12);
        // 58 stands in the book; the row is full, and 57 stands below the row 0.
        reasons(b, 0, 0, 1, 58);
        // 13 is in the column of 11, the row is full, and 12 stands above it.
        reasons(b, 0, 1, 2, 11);
        // The row is full, and 57 stands below the row 0.
        reasons(b, 0, 0, 3, 59);
        b.take(34);
        reasons(b, 0, 0, 4, 59);
        reasons(b, 0, 0, 0, 56);
        TombolaBooks bought = new Play().bought(1).books;
        reasons(bought, 0, 1, 1, 12);
        reasons(bought, 0, 1, 2, 11);
        reasons(bought, 0, 0, 3, 59);
    }

    @Sentence("1: it stands in the book;")
    static void reason1() {
        TombolaBooks b = new TombolaBooks();
        b.put(0, 0, 1);
        b.put(5, 2, 90);
        reasons(b, 0, 0, 1, 1);
        reasons(b, 0, 2, 1, 1, 90);
        reasons(b, 5, 2, 1, 1, 90);
        b.take(90);
        reasons(b, 5, 2, 0, 90);
    }

    @Sentence("2: there is another number in this column of the row;")
    static void reason2() {
        TombolaBooks b = new TombolaBooks();
        b.put(4, 1, 5);
        b.put(4, 1, 45);
        b.put(4, 1, 90);
        reasons(b, 4, 1, 2, 1, 9, 40, 44, 46, 49, 80, 89);
        reasons(b, 4, 1, 0, 10, 39, 50, 79);
        reasons(b, 3, 1, 0, 1, 40, 89);
        reasons(b, 4, 0, 0, 4, 44, 89);
    }

    @Sentence("3: the row has 5 numbers;")
    static void reason3() {
        TombolaBooks b = new TombolaBooks();
        for (int number : new int[] {1, 11, 21, 31}) {
            reasons(b, 2, 2, 0, 41, 81, 90);
            b.put(2, 2, number);
        }
        reasons(b, 2, 2, 0, 41, 81, 90);
        b.put(2, 2, 41);
        reasons(b, 2, 2, 3, 50, 59, 61, 71, 81, 90);
        reasons(b, 2, 1, 0, 50, 90);
        b.take(1);
        reasons(b, 2, 2, 0, 50, 90, 1);
    }

    @Sentence("4: a number in this column of a row above it in the card is greater,")
    static void reason4Above() {
        TombolaBooks b = new TombolaBooks();
        b.put(0, 0, 45);
        reasons(b, 0, 1, 4, 44, 40);
        reasons(b, 0, 2, 4, 44, 40);
        reasons(b, 0, 1, 0, 46, 49, 39);
        reasons(b, 0, 2, 0, 46, 49, 39);
        reasons(b, 1, 1, 0, 44);
        b.put(0, 1, 90);
        reasons(b, 0, 2, 4, 80, 89);
        b.put(5, 1, 85);
        reasons(b, 5, 2, 4, 84);
        reasons(b, 5, 2, 0, 86);
    }

    @Sentence("or one of a row below it is less;")
    static void reason4Below() {
        TombolaBooks b = new TombolaBooks();
        b.put(5, 2, 45);
        reasons(b, 5, 1, 4, 46, 49);
        reasons(b, 5, 0, 4, 46, 49);
        reasons(b, 5, 1, 0, 44, 40, 50);
        reasons(b, 5, 0, 0, 44, 40, 50);
        reasons(b, 4, 2, 0, 46);
        b.put(5, 1, 80);
        reasons(b, 5, 0, 4, 81, 90);
        // Between two numbers of a column.
        b.put(3, 0, 11);
        b.put(3, 2, 13);
        reasons(b, 3, 1, 4, 10, 14);
        reasons(b, 3, 1, 0, 12);
    }

    /** A bought card is whole, so that one of the reasons 1 to 3 is always so too. */
    @Sentence("5: the card was bought.")
    static void reason5IsBehindTheOthers() {
        TombolaBooks b = new Play().bought(1).books;
        TombolaBooks unbought = new Play().wholeCards(1).books;
        for (int number = 1; number <= 90; number++) {
            int row = number % 3;
            int reason = b.whyNot(0, row, number);
            Check.record(reason >= 1 && reason <= 3, number + " in a bought card: " + reason);
            Check.due("put of " + number, b.put(0, row, number), unbought.put(0, row, number));
        }
        Check.due("numbers in the book", b.count(0), 15);
    }

    @Sentence("A card is whole if each of its rows has 5 numbers.")
    static void wholeCards() {
        for (int row = 0; row < 3; row++) {
            TombolaBooks b = new Play().wholeCards(2).books;
            Check.due("15 numbers", b.cardOf(0, 1), 1);
            b.take(Play.ROWS[0][row][4]);
            Check.due("4 numbers in the row " + row, b.cardOf(0, 1), 0);
            Check.due("the card beside it", b.cardOf(1, 1), 1);
        }
        Check.due("an empty card", new TombolaBooks().cardOf(5, 1), 0);
    }
}
