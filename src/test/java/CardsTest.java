/** Promises 1 to 4, 18 and 25: a new book, put, take, fill, at, whyNot. */
public final class CardsTest {
    public static void main(String[] args) {
        newBook();
        reasonsInTheirOrder();
        columnEdges();
        columnsMustAscend();
        takeOut();
        fillByLot();
        fillPutsIntoTheFirstRowThatTakesIt();
        fillOfAFullBook();
        Check.finish();
    }

    private static void newBook() {
        TombolaBooks b = new TombolaBooks();
        for (int what = 0; what <= 14; what++) {
            Check.due("new: count " + what, b.count(what), what == 7 ? 90 : what == 13 ? 1 : 0);
        }
        for (int card = 0; card < 6; card++) {
            for (int row = 0; row < 3; row++) {
                for (int column = 0; column < 9; column++) {
                    Check.due("new: at", b.at(card, row, column), 0);
                }
            }
        }
        Check.due("new: settings", b.setting(0) * 10000 + b.setting(1) * 100 + b.setting(2), 100000);
        Check.due("new: buffer", b.clearBuffer(), 0);
        Check.dueThrow("new: goBack(0)", IllegalStateException.class, () -> b.goBack(0));
        Check.dueThrow("new: goBack(1)", IllegalStateException.class, () -> b.goBack(1));
        Check.dueThrow("new: undo", IllegalStateException.class, b::undo);
    }

    private static void reasonsInTheirOrder() {
        TombolaBooks b = new TombolaBooks();
        for (int number : new int[] {11, 21, 31, 41}) {
            Check.due("put", b.put(3, 1, number), 0);
        }
        put(b, 3, 1, 21, 1);
        put(b, 5, 0, 21, 1);
        put(b, 3, 1, 25, 2);
        put(b, 3, 1, 51, 0);
        put(b, 3, 1, 25, 2);
        put(b, 3, 1, 61, 3);
        put(b, 3, 0, 12, 4);
        put(b, 3, 2, 10, 4);
        put(b, 3, 0, 62, 0);
        // Before 3 comes 2, before 4 comes 3: the row is full, and 61 would be above 62 too.
        put(b, 3, 1, 59, 2);
        put(b, 3, 1, 63, 3);
        put(b, 4, 0, 12, 0);
        Check.due("numbers in the book", b.count(0), 7);
        Check.due("refused numbers leave the place", b.at(3, 1, 6), 0);
    }

    /** What whyNot tells and put answers is the same, and only a reason of 0 puts the number. */
    private static void put(TombolaBooks b, int card, int row, int number, int reason) {
        String what = "(" + card + ", " + row + ", " + number + ")";
        int before = b.count(0);
        Check.due("whyNot" + what, b.whyNot(card, row, number), reason);
        Check.due("count behind whyNot" + what, b.count(0), before);
        Check.due("put" + what, b.put(card, row, number), reason);
        Check.due("count behind put" + what, b.count(0), before + (reason == 0 ? 1 : 0));
    }

    private static void columnEdges() {
        TombolaBooks b = new TombolaBooks();
        int[] numbers = {1, 9, 10, 19, 20, 79, 80, 89, 90};
        int[] columns = {0, 0, 1, 1, 2, 7, 8, 8, 8};
        for (int i = 0; i < numbers.length; i++) {
            int row = i % 3;
            int card = i / 3;
            put(b, card, row, numbers[i], 0);
            Check.due("column of " + numbers[i], b.at(card, row, columns[i]), numbers[i]);
        }
        put(b, 2, 0, 7, 0);
        put(b, 2, 2, 88, 2);
    }

    private static void columnsMustAscend() {
        TombolaBooks b = new TombolaBooks();
        put(b, 0, 1, 45, 0);
        put(b, 0, 0, 46, 4);
        put(b, 0, 0, 44, 0);
        put(b, 0, 2, 43, 4);
        put(b, 0, 2, 46, 0);
        // The rows need not be neighbours, and another card does not matter.
        put(b, 1, 0, 85, 0);
        put(b, 1, 2, 84, 4);
        put(b, 1, 2, 90, 0);
        put(b, 2, 2, 81, 0);
        put(b, 2, 0, 82, 4);
        put(b, 3, 0, 82, 0);
    }

    private static void takeOut() {
        TombolaBooks b = new TombolaBooks();
        b.put(5, 2, 90);
        b.put(0, 0, 1);
        Check.due("take(90)", b.take(90), 52);
        Check.due("at behind take", b.at(5, 2, 8), 0);
        Check.due("card behind take", b.numberOf(90, 0), TombolaBooks.NONE);
        Check.due("count behind take", b.count(0), 1);
        Check.due("take(1)", b.take(1), 0);
        Check.dueThrow("take(1) again", IllegalStateException.class, () -> b.take(1));
        put(b, 5, 1, 90, 0);
        Check.due("saved", b.count(14), 5);
        TombolaBooks bought = new Play().bought(1).books;
        Check.dueThrow("take of a bought card", IllegalStateException.class, () -> bought.take(1));
        bought.end();
        Check.due("take when it is bought no more", bought.take(90), 1);
    }

    private static void fillByLot() {
        TombolaBooks b = new TombolaBooks();
        // x is 2084, of 90 numbers the rank 14; then 9027, of 89 the rank 38.
        Check.due("fill(2, 1)", b.fill(2, 1), 1);
        Check.due("the first lot", b.at(2, 0, 1), 15);
        Check.due("the lot behind", b.count(13), 2084);
        Check.due("fill(2, 1) again", b.fill(2, 1), 1);
        Check.due("the second lot", b.at(2, 0, 4), 40);
        // The same lots again: of 88 numbers the rank 60, of 87 the rank 66.
        b.seed(1);
        Check.due("fill(2, 2)", b.fill(2, 2), 2);
        Check.due("63 of 88", b.at(2, 0, 6), 63);
        Check.due("70 of 87", b.at(2, 0, 7), 70);
        Check.due("the lot behind", b.count(13), 9027);
        Check.dueThrow("fill of a bought card", IllegalStateException.class,
                () -> new Play().bought(1).books.fill(0, 1));
    }

    private static void fillPutsIntoTheFirstRowThatTakesIt() {
        TombolaBooks b = new TombolaBooks();
        // 15 can stand in no row above 14, and not beside 13: nothing is put, but the lot is drawn.
        b.put(0, 2, 13);
        b.put(1, 1, 14);
        b.seed(Play.lotFor(12, 88));
        Check.due("fill with 15", b.fill(0, 1), 0);
        Check.due("15 stays out", b.numberOf(15, 0), TombolaBooks.NONE);
        Check.due("the lot is drawn", b.count(13) % 88, 12);
        b.seed(Play.lotFor(11, 88));
        Check.due("fill with 12", b.fill(1, 1), 1);
        Check.due("12 in the first row", b.numberOf(12, 1), 0);
        b.seed(Play.lotFor(11, 87));
        Check.due("fill with 15", b.fill(1, 1), 1);
        Check.due("15 in the last row", b.numberOf(15, 1), 2);
    }

    private static void fillOfAFullBook() {
        TombolaBooks b = new Play().fullBook().books;
        Check.due("all numbers placed", b.count(0), 90);
        Check.due("whole cards", b.count(1), 6);
        Check.due("fill without a free number", b.fill(0, 60), 0);
        Check.due("no lot is drawn", b.count(13), 1);
        b.take(b.at(0, 0, 8) == 0 ? b.at(0, 0, 7) : b.at(0, 0, 8));
        Check.due("fill with one free number", b.fill(0, 60), 1);
        Check.due("one lot is drawn", b.count(13), 2084);
    }
}
