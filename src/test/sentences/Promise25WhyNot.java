/** Promise 25. */
@Head("Promise 25: whyNot")
final class Promise25WhyNot {
    private Promise25WhyNot() {
    }

    /** What whyNot tells is what put answers, for all numbers and rows of some books. */
    @Sentence("Tells why a number cannot stand in a row.")
    static void asPutAnswers() {
        for (int row = 0; row < 18; row++) {
            TombolaBooks b = Play.rich().books;
            for (int number = 1 + row % 5; number <= 90; number += 5) {
                int told = b.whyNot(row / 3, row % 3, number);
                int before = b.count(0);
                Check.due("put of " + number, b.put(row / 3, row % 3, number), told);
                Check.due("numbers", b.count(0), before + (told == 0 ? 1 : 0));
            }
        }
    }

    @Sentence("`card`: 0 to 5")
    static void card() {
        Bounds.inside(0, 5, () -> new Play().wholeCards(1).books, (b, card) -> b.whyNot(card, 0, 55),
                card -> card == 0 ? 3 : 0);
    }

    @Sentence("`row`: 0 to 2")
    static void row() {
        Bounds.inside(0, 2, () -> {
            TombolaBooks b = new TombolaBooks();
            b.put(5, 1, 45);
            return b;
        }, (b, row) -> b.whyNot(5, row, 46), row -> new int[] {4, 2, 0}[row]);
    }

    @Sentence("`number`: 1 to 90")
    static void number() {
        Bounds.inside(1, 90, TombolaBooks::new, (b, number) -> b.whyNot(5, 2, number), number -> 0);
        TombolaBooks full = new Play().fullBook().books;
        Bounds.inside(1, 90, () -> full, (b, number) -> b.whyNot(5, 2, number), number -> 1);
    }

    @Sentence("Returns 0 if it can;")
    static void returns0() {
        TombolaBooks b = new TombolaBooks();
        b.put(0, 0, 45);
        Check.due("beside it", b.whyNot(0, 0, 39), 0);
        Check.due("beside it", b.whyNot(0, 0, 50), 0);
        Check.due("below it", b.whyNot(0, 1, 46), 0);
        Check.due("two rows below it", b.whyNot(0, 2, 49), 0);
        Check.due("in another card", b.whyNot(1, 1, 44), 0);
        Check.due("nothing is put", b.count(0), 1);
        Check.due("nothing is saved", b.count(14), 1);
    }

    @Sentence("otherwise the reason.")
    static void returnsTheReason() {
        TombolaBooks b = new Play().wholeCards(1).books;
        b.put(5, 1, 55);
        Check.due("it stands in the book", b.whyNot(5, 0, 1), 1);
        Check.due("it stands there", b.whyNot(5, 1, 55), 1);
        Check.due("another number in the column", b.whyNot(5, 1, 56), 2);
        Check.due("5 numbers in the row", b.whyNot(0, 0, 56), 3);
        Check.due("a lesser one below", b.whyNot(5, 0, 56), 4);
        Check.due("a greater one above", b.whyNot(5, 2, 54), 4);
    }

    @Sentence("Throws `IndexOutOfBoundsException` if there is no such card or row")
    static void noSuchCardOrRow() {
        Bounds.outside(0, 5, Bounds.PLACE, TombolaBooks::new, (b, card) -> b.whyNot(card, 0, 45));
        Bounds.outside(0, 2, Bounds.PLACE, TombolaBooks::new, (b, row) -> b.whyNot(0, row, 45));
        Bounds.outside(0, 5, Bounds.PLACE, TombolaBooks::new, (b, card) -> b.whyNot(card, 0, 91));
        Bounds.outside(0, 2, Bounds.PLACE, TombolaBooks::new, (b, row) -> b.whyNot(0, row, 0));
    }

    @Sentence("Throws `IllegalArgumentException` if number is out of range")
    static void numberOutOfRange() {
        Bounds.outside(1, 90, Bounds.VALUE, TombolaBooks::new, (b, number) -> b.whyNot(0, 0, number));
        Bounds.outside(1, 90, Bounds.VALUE, () -> new Play().bought(1).books, (b, number) -> b.whyNot(0, 0, number));
    }
}
