/** "Lots". */
@Head("Lots")
final class TermsLots {
    private TermsLots() {
    }

    @Sentence("There is a lot x, 0 to 9999, at first 1.")
    static void theLot() {
        TombolaBooks b = new TombolaBooks();
        Check.due("at first", b.count(13), 1);
        b.seed(0);
        Check.due("the least", b.count(13), 0);
        b.seed(9999);
        Check.due("the greatest", b.count(13), 9999);
        Bounds.outside(0, 9999, Bounds.VALUE, TombolaBooks::new, TombolaBooks::seed);
        for (int i = 0; i < 90; i++) {
            b.draw(1);
            Check.record(b.count(13) >= 0 && b.count(13) <= 9999, "the lot " + b.count(13));
        }
    }

    @Sentence("To draw a lot makes it (x * 421 + 1663) modulo 10000;")
    static void aLotIsMade() {
        // Behind 19 it stays below 10000, behind 20 it does not.
        int[] before = {0, 1, 19, 20, 9999};
        int[] due = {1663, 2084, 9662, 83, 1242};
        for (int i = 0; i < before.length; i++) {
            TombolaBooks b = new TombolaBooks();
            b.seed(before[i]);
            b.draw(1);
            Check.due("the lot behind " + before[i], b.count(13), due[i]);
        }
        TombolaBooks b = new TombolaBooks();
        b.seed(Play.lotFor(0, 10000));
        b.draw(1);
        Check.due("modulo 10000", b.count(13), 0);
        Check.due("the rank 0", b.call(0, 0), 1);
    }

    @Sentence("what is drawn of n things is the one of the rank x modulo n, of the x behind it.")
    static void theRankIsOfTheLotBehind() {
        for (int rank : new int[] {0, 1, 44, 88, 89}) {
            TombolaBooks b = new TombolaBooks();
            b.seed(Play.lotFor(rank, 90));
            Check.due("rank " + rank + " of 90", b.draw(1), rank + 1);
        }
        TombolaBooks one = new TombolaBooks();
        one.draw(89);
        int last = one.next(1);
        one.seed(9999);
        Check.due("one thing, whatever the lot", one.draw(1), last);
        TombolaBooks greatest = new TombolaBooks();
        greatest.seed(Play.lotFor(9999, 10000));
        Check.due("9999 of 90 is the rank 9", greatest.draw(1), 10);
    }

    @Sentence("To fill a card by lot: so many times a lot is drawn of the numbers that are not in the book, "
            + "by ascending numbers;")
    static void lotsOfTheNumbersOutOfTheBook() {
        TombolaBooks b = new TombolaBooks();
        b.put(5, 0, 1);
        b.put(5, 1, 45);
        b.put(5, 2, 90);
        int[] ranks = {0, 42, 43, 86};
        int[] due = {2, 44, 46, 89};
        for (int i = 0; i < ranks.length; i++) {
            b.seed(Play.lotFor(ranks[i], 87));
            Check.due("one number", b.fill(0, 1), 1);
            Check.due("the rank " + ranks[i] + " of 87", b.numberOf(due[i], 0), 0);
            b.undo();
        }
        // What is put by one lot is out for the next one: 15 has the rank 14, 40 the rank 38 of 89.
        TombolaBooks two = new TombolaBooks();
        two.fill(2, 2);
        Check.due("15", two.numberOf(15, 0), 2);
        Check.due("40", two.numberOf(40, 0), 2);
    }

    @Sentence("To fill a card by lot: so many times a lot is drawn")
    static void soManyLots() {
        for (int many : new int[] {1, 2, 15, 59, 60}) {
            TombolaBooks b = new Play().wholeCards(1).books;
            Check.due("a whole card takes none", b.fill(0, many), 0);
            int x = 1;
            for (int i = 0; i < many; i++) {
                x = (x * 421 + 1663) % 10000;
            }
            Check.due("the lot behind " + many + " lots", b.count(13), x);
        }
    }

    @Sentence("the number that is drawn is put into the first row of the card in which it can stand,")
    static void theFirstRowInWhichItCanStand() {
        for (int row = 0; row < 3; row++) {
            TombolaBooks b = new TombolaBooks();
            for (int above = 0; above < row; above++) {
                b.put(1, above, 41 + above);
            }
            // 45 has the rank 44, less those that stand below it.
            b.seed(Play.lotFor(44 - row, 90 - row));
            Check.due("45 is put", b.fill(1, 1), 1);
            Check.due("into the row " + row, b.at(1, row, 4), 45);
        }
        // Of 49's column the row 0 has 45, the row 1 has 46: 49 goes into the row 2.
        TombolaBooks b = new Play().wholeCards(1).books;
        b.take(69);
        b.take(1);
        b.seed(Play.lotFor(freeBelow(b, 49), 77));
        Check.due("49 is put", b.fill(0, 1), 1);
        Check.due("into the row 2", b.at(0, 2, 4), 49);
    }

    private static int freeBelow(TombolaBooks b, int number) {
        int free = 0;
        for (int less = 1; less < number; less++) {
            free += b.numberOf(less, 0) < 0 ? 1 : 0;
        }
        return free;
    }

    @Sentence("if there is one.")
    static void aNumberThatCanStandNowhere() {
        TombolaBooks b = new TombolaBooks();
        b.put(0, 0, 44);
        b.put(0, 1, 46);
        b.put(0, 2, 47);
        b.seed(Play.lotFor(42, 87));
        int lot = b.count(13);
        Check.due("43 is not put", b.fill(0, 1), 0);
        Check.due("43 is in no card", b.numberOf(43, 0), TombolaBooks.NONE);
        Check.due("the lot is drawn", b.count(13), (lot * 421 + 1663) % 10000);
        // It is among those of the next lot again.
        b.seed(Play.lotFor(42, 87));
        Check.due("43 is put into another card", b.fill(1, 1), 1);
        Check.due("43", b.numberOf(43, 0), 1);
    }
}
