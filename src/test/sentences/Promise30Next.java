/** Promise 30. */
@Head("Promise 30: next")
final class Promise30Next {
    private static final int NONE = TombolaBooks.NONE;

    private Promise30Next() {
    }

    @Sentence("Tells which ball is drawn next.")
    static void theNextBall() {
        TombolaBooks b = new TombolaBooks();
        b.set(1, 1);
        for (int call = 1; call <= 90; call++) {
            int told = b.next(1);
            Check.due("the ball, not what is said", b.draw(1), told);
        }
        Check.due("no ball is left", b.next(1), NONE);
    }

    @Sentence("`ahead`: 1 to 90: the next one, the one behind it, and so on")
    static void ahead() {
        TombolaBooks b = new TombolaBooks();
        Check.due("the first lot", b.next(1), 15);
        Check.due("the second lot", b.next(2), 40);
        int[] told = new int[91];
        for (int ahead = 1; ahead <= 90; ahead++) {
            told[ahead] = b.next(ahead);
        }
        b.draw(90);
        for (int ahead = 1; ahead <= 90; ahead++) {
            Check.due("the call " + ahead, b.call(90 - ahead, 0), told[ahead]);
        }
    }

    @Sentence("Returns its number;")
    static void returnsItsNumber() {
        for (int number : new int[] {1, 2, 45, 89, 90}) {
            TombolaBooks b = new TombolaBooks();
            b.seed(Play.lotFor(number - 1, 90));
            Check.due("next(1)", b.next(1), number);
            Check.due("no lot is drawn by it", b.next(1), number);
            Check.due("no ball is drawn by it", b.count(7), 90);
        }
        TombolaBooks one = new TombolaBooks();
        one.draw(89);
        for (int number = 1; number <= 90; number++) {
            Check.record(one.numberOf(number, 2) > 0 || one.next(1) == number, number + " is left");
        }
    }

    @Sentence("NONE if there are not so many in the drum.")
    static void notSoMany() {
        TombolaBooks b = new TombolaBooks();
        for (int left = 90; left >= 1; left--) {
            Check.record(b.next(left) != NONE, left + " of " + left);
            if (left < 90) {
                Check.due((left + 1) + " of " + left, b.next(left + 1), NONE);
                Check.due("90 of " + left, b.next(90), NONE);
            }
            b.draw(1);
        }
        Check.due("1 of none", b.next(1), NONE);
        Check.due("90 of none", b.next(90), NONE);
        b.end();
        Check.record(b.next(90) != NONE, "90 in the next evening");
    }

    @Sentence("Throws `IllegalArgumentException` if ahead is out of range")
    static void aheadOutOfRange() {
        Bounds.outside(1, 90, Bounds.VALUE, TombolaBooks::new, TombolaBooks::next);
        TombolaBooks empty = new TombolaBooks();
        empty.draw(90);
        Bounds.outside(1, 90, Bounds.VALUE, () -> empty, TombolaBooks::next);
    }
}
