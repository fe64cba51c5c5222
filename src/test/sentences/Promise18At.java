/** Promise 18. */
@Head("Promise 18: at")
final class Promise18At {
    private Promise18At() {
    }

    @Sentence("Returns the number at a place of a card.")
    static void eachPlaceOfAFullBook() {
        TombolaBooks b = new Play().fullBook().books;
        for (int place = 0; place < 162; place++) {
            int due = 0;
            for (int number : Play.FULL[place / 27][place / 9 % 3]) {
                due = (number == 90 ? 8 : number / 10) == place % 9 ? number : due;
            }
            Check.due("place " + place, b.at(place / 27, place / 9 % 3, place % 9), due);
        }
    }

    @Sentence("`card`: 0 to 5")
    static void card() {
        Bounds.inside(0, 5, () -> new Play().fullBook().books, (b, card) -> b.at(card, 0, columnOf(card)),
                card -> Play.FULL[card][0][4]);
    }

    private static int columnOf(int card) {
        int last = Play.FULL[card][0][4];
        return last == 90 ? 8 : last / 10;
    }

    @Sentence("`row`: 0 to 2")
    static void row() {
        Bounds.inside(0, 2, () -> new Play().wholeCards(1).books, (b, row) -> b.at(0, row, row == 0 ? 0 : 2 - row),
                row -> new int[] {1, 13, 2}[row]);
    }

    @Sentence("`column`: 0 to 8")
    static void column() {
        TombolaBooks b = new TombolaBooks();
        int[] numbers = {9, 10, 29, 30, 49, 50, 69, 70, 90};
        for (int column = 0; column < 9; column++) {
            b.put(column / 3, 0, numbers[column]);
        }
        Bounds.inside(0, 8, () -> b, (each, column) -> each.at(column / 3, 0, column), column -> numbers[column]);
    }

    @Sentence("Returns the number;")
    static void returnsTheNumber() {
        TombolaBooks b = new TombolaBooks();
        b.put(5, 2, 89);
        Check.due("89", b.at(5, 2, 8), 89);
        b.take(89);
        b.put(5, 2, 90);
        Check.due("90 in its place", b.at(5, 2, 8), 90);
        b.put(5, 2, 1);
        Check.due("1", b.at(5, 2, 0), 1);
    }

    @Sentence("0 if there is none.")
    static void returns0() {
        TombolaBooks b = new TombolaBooks();
        Check.due("the first place", b.at(0, 0, 0), 0);
        Check.due("the last place", b.at(5, 2, 8), 0);
        b.put(0, 0, 90);
        Check.due("another column", b.at(0, 0, 7), 0);
        Check.due("another row", b.at(0, 1, 8), 0);
        Check.due("another card", b.at(1, 0, 8), 0);
        b.take(90);
        Check.due("taken out", b.at(0, 0, 8), 0);
    }

    @Sentence("Throws `IndexOutOfBoundsException` if there is no such card, row or column")
    static void noSuchPlace() {
        Bounds.outside(0, 5, Bounds.PLACE, TombolaBooks::new, (b, card) -> b.at(card, 0, 0));
        Bounds.outside(0, 2, Bounds.PLACE, TombolaBooks::new, (b, row) -> b.at(0, row, 0));
        Bounds.outside(0, 8, Bounds.PLACE, TombolaBooks::new, (b, column) -> b.at(0, 0, column));
        Bounds.outside(0, 8, Bounds.PLACE, () -> new Play().fullBook().books, (b, column) -> b.at(5, 2, column));
    }
}
