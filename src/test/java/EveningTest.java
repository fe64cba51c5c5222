/** Promises 5, 8, 19 to 21 and 30: buy, draw, cardOf, numberOf, call, next. */
public final class EveningTest {
    private static final int NONE = TombolaBooks.NONE;

    public static void main(String[] args) {
        buying();
        drawing();
        drawingAll();
        slips();
        slipsByTheSetting();
        propertiesOfACard();
        rowsThatAreNotFullAreNoLines();
        nextBalls();
        Check.finish();
    }

    private static void buying() {
        TombolaBooks b = new Play().wholeCards(3).books;
        Check.due("bought before", b.cardOf(0, 2), 0);
        Check.due("buy(0)", b.buy(0), 10);
        Check.due("bought", b.cardOf(0, 2), 1);
        b.set(0, 7);
        Check.due("buy(2)", b.buy(2), 17);
        Check.due("cards that were bought", b.count(2), 2);
        Check.due("came in", b.count(4), 17);
        Check.dueThrow("buy(0) again", IllegalStateException.class, () -> b.buy(0));
        Check.dueThrow("buy of an empty card", IllegalStateException.class, () -> b.buy(3));
        b.put(3, 0, 7);
        Check.dueThrow("buy of a card that is not whole", IllegalStateException.class, () -> b.buy(3));
        b.draw(1);
        Check.dueThrow("buy behind a call", IllegalStateException.class, () -> b.buy(1));
        b.end();
        Check.due("buy in the next evening", b.buy(1), 7);
        Check.due("came in so far", b.count(4), 24);
        TombolaBooks almost = new Play().wholeCards(1).books;
        almost.take(70);
        Check.due("14 numbers are not whole", almost.cardOf(0, 1), 0);
        Check.dueThrow("buy with 14 numbers", IllegalStateException.class, () -> almost.buy(0));
    }

    private static void drawing() {
        TombolaBooks b = new TombolaBooks();
        Check.due("draw(2)", b.draw(2), 40);
        Check.due("call 1", b.numberOf(15, 2), 1);
        Check.due("call 2", b.numberOf(40, 2), 2);
        Check.due("in the drum", b.numberOf(41, 2), 0);
        Check.due("said", b.numberOf(40, 3), 1);
        Check.due("not said", b.numberOf(41, 3), 0);
        Check.due("balls in the drum", b.count(7), 88);
        Check.due("calls", b.count(8), 2);
        Check.due("no slips", b.count(9), 0);
        Check.due("saved as one", b.count(14), 1);
        Check.due("the latest call", b.call(0, 0), 40);
        Check.due("the call before", b.call(1, 0), 15);
        Check.due("what was said before", b.call(1, 1), 15);
        Check.due("no third call", b.call(2, 0), NONE);
        Check.due("no third call said", b.call(2, 1), NONE);
        Check.due("ago may be great", b.call(Integer.MAX_VALUE, 1), NONE);
        Check.due("the lot", b.count(13), 9027);
    }

    private static void drawingAll() {
        TombolaBooks b = new TombolaBooks();
        Check.due("draw(89)", b.draw(89) > 0 ? 1 : 0, 1);
        int last = b.next(1);
        Check.dueThrow("draw(2) of one", IllegalStateException.class, () -> b.draw(2));
        Check.due("next(2) of one", b.next(2), NONE);
        Check.due("draw(1) of one", b.draw(1), last);
        Check.due("the last call", b.numberOf(last, 2), 90);
        Check.dueThrow("draw(1) of none", IllegalStateException.class, () -> b.draw(1));
        Check.due("next(1) of none", b.next(1), NONE);
        Check.due("the first call", b.call(89, 0), 15);
        Check.due("no call before it", b.call(90, 0), NONE);
        long sum = 0;
        for (int ago = 0; ago < 90; ago++) {
            sum += b.call(ago, 0);
        }
        Check.due("all numbers once", sum, 4095);
        b.end();
        Check.due("the drum is full again", b.count(7), 90);
        Check.due("no call in the new evening", b.call(0, 0), NONE);
        Check.due("nothing was drawn", b.numberOf(15, 2), 0);
        Check.due("nothing was said", b.numberOf(15, 3), 0);
        Check.due("draw(90)", b.draw(90) > 0 ? 1 : 0, 1);
    }

    private static void slips() {
        Play play = new Play();
        TombolaBooks b = play.books;
        b.set(1, 3);
        play.balls(10, 20, 90, 2, 3, 30);
        Check.due("90 was drawn", b.call(3, 0), 90);
        Check.due("1 was said for 90", b.call(3, 1), 1);
        Check.due("30 was drawn", b.call(0, 0), 30);
        Check.due("31 was said for 30", b.call(0, 1), 31);
        Check.due("no slip between", b.call(1, 1), 3);
        Check.due("slips", b.count(9), 2);
        Check.due("90 was not said", b.numberOf(90, 3), 0);
        Check.due("1 was said", b.numberOf(1, 3), 1);
        Check.due("1 is in the drum", b.numberOf(1, 2), 0);
        play.balls(1);
        Check.due("1 was said twice", b.numberOf(1, 3), 2);
        play.end();
        Check.due("slips in the new evening", b.count(9), 0);
        play.balls(40, 41, 42);
        Check.due("calls are counted from the evening's beginning", b.call(0, 1), 43);
        Check.due("and the second is none", b.call(1, 1), 41);
    }

    private static void slipsByTheSetting() {
        Play play = new Play();
        TombolaBooks b = play.books;
        b.set(1, 1);
        play.balls(5, 6);
        Check.due("with 1 each call is a slip", b.count(9), 2);
        b.set(1, 0);
        play.balls(7);
        Check.due("with 0 none is", b.count(9), 2);
        b.set(1, 2);
        play.balls(8, 9);
        Check.due("the calls before count", b.count(9), 3);
        Check.due("8 was said as 9", b.numberOf(9, 3), 2);
        b.set(1, 99);
        b.draw(85);
        Check.due("99 is beyond the calls", b.count(9), 3);
    }

    private static void propertiesOfACard() {
        Play play = new Play().bought(2);
        TombolaBooks b = play.books;
        card(b, 0, 15, 1, 1, 0, 0, 0, 0, 0, 0);
        card(b, 2, 0, 0, 0, 0, 0, 0, 0, 0, 0);
        play.balls(1, 12, 23, 34);
        b.claim(0, 0);
        b.set(1, 5);
        play.balls(45);
        // 46 was said for 45, and stands in the same card; said are 1, 12, 23, 34 and 46.
        card(b, 0, 15, 1, 1, 5, 5, 1, 0, 0, 1);
        b.claim(0, 0);
        card(b, 0, 15, 1, 1, 5, 5, 1, 1, 0, 1);
        b.set(1, 1);
        play.balls(2, 11);
        // 3 was said for 2, 12 again for 11.
        card(b, 0, 15, 1, 1, 6, 5, 1, 1, 0, 1);
        card(b, 1, 15, 1, 1, 0, 1, 0, 0, 0, 0);
        play.end();
        card(b, 0, 15, 1, 0, 0, 0, 0, 0, 2, 1);
    }

    private static void card(TombolaBooks b, int card, int... due) {
        for (int what = 0; what < 9; what++) {
            Check.due("card " + card + ", property " + what, b.cardOf(card, what), due[what]);
        }
    }

    private static void rowsThatAreNotFullAreNoLines() {
        Play play = new Play();
        TombolaBooks b = play.books;
        b.put(4, 1, 11);
        b.put(4, 1, 22);
        b.put(4, 1, 33);
        b.put(4, 1, 44);
        play.balls(11, 22, 33, 44);
        Check.due("four drawn", b.cardOf(4, 3), 4);
        Check.due("no line", b.cardOf(4, 5), 0);
        b.put(4, 1, 55);
        Check.due("no line with 55 in the drum", b.cardOf(4, 5), 0);
        play.balls(55);
        Check.due("a line", b.cardOf(4, 5), 1);
        Check.due("the card of a number", b.numberOf(55, 0), 4);
        Check.due("the row of a number", b.numberOf(55, 1), 1);
        Check.due("the card of none", b.numberOf(56, 0), NONE);
        Check.due("the row of none", b.numberOf(56, 1), NONE);
    }

    private static void nextBalls() {
        TombolaBooks b = new TombolaBooks();
        b.set(1, 1);
        int[] told = new int[91];
        for (int ahead = 1; ahead <= 90; ahead++) {
            told[ahead] = b.next(ahead);
        }
        Check.due("next(1)", told[1], 15);
        Check.due("next(2)", told[2], 40);
        Check.due("next draws no lot", b.count(13), 1);
        for (int call = 1; call <= 90; call++) {
            if (call == 51) {
                Check.due("next(40) behind 50 calls", b.next(40), told[90]);
                Check.due("next(41) behind 50 calls", b.next(41), NONE);
            }
            Check.due("draw as next told", b.draw(1), told[call]);
        }
    }
}
