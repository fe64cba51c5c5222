/** Promises 28, 29 and 31: fullAt, firstFull, drawnShare. */
public final class ForecastTest {
    private static final int NONE = TombolaBooks.NONE;

    public static void main(String[] args) {
        cardsThatAreNotWhole();
        fullBehindTheLastOfItsNumbers();
        foretoldAsDrawn();
        fullAlready();
        share();
        Check.finish();
    }

    private static void full(TombolaBooks b, int card, int due) {
        Check.due("fullAt(" + card + ", 0)", b.fullAt(card, 0), due);
        Check.due("fullAt(" + card + ", 1)", b.fullAt(card, 1), due);
    }

    private static void cardsThatAreNotWhole() {
        TombolaBooks b = new Play().wholeCards(1).books;
        Check.due("the only whole card is first", b.firstFull(), 0);
        b.take(90);
        full(b, 0, NONE);
        full(b, 5, NONE);
        Check.due("firstFull without a whole card", b.firstFull(), NONE);
        b.draw(90);
        full(b, 0, NONE);
        Check.due("firstFull with an empty drum", b.firstFull(), NONE);
    }

    private static void fullBehindTheLastOfItsNumbers() {
        Play play = new Play().wholeCards(3);
        TombolaBooks b = play.books;
        play.balls(3, 15, 25, 35, 47, 16, 26, 48, 59, 80, 5, 17, 61, 71);
        // Left are 76 balls; 14 of those below 89 are out, so that 89 has the rank 74.
        b.seed(Play.lotFor(74, 76));
        Check.due("89 is next", b.next(1), 89);
        full(b, 1, 15);
        Check.due("firstFull", b.firstFull(), 1);
        long before = b.digest();
        b.fullAt(0, 0);
        b.fullAt(0, 1);
        Check.due("nothing is changed", b.digest(), before);
    }

    private static void foretoldAsDrawn() {
        for (int x = 0; x < 10000; x += 997) {
            TombolaBooks b = new Play().wholeCards(3).books;
            b.seed(x);
            int[] told = new int[3];
            for (int card = 0; card < 3; card++) {
                told[card] = b.fullAt(card, 1);
                full(b, card, told[card]);
            }
            int first = b.firstFull();
            for (int call = 1; call <= 90; call++) {
                b.draw(1);
                for (int card = 0; card < 3; card++) {
                    boolean isFull = b.missing(card, 3, 0) == 0;
                    Check.record(isFull == call >= told[card], "card " + card + " at call " + call);
                    Check.record(!isFull || told[first] <= call, "firstFull " + first);
                }
            }
            full(b, 0, told[0]);
            Check.due("firstFull", b.firstFull(), first);
        }
    }

    private static void fullAlready() {
        Play play = new Play().wholeCards(2);
        TombolaBooks b = play.books;
        play.balls(88, 1, 12, 23, 34, 45, 2, 14, 58, 69, 70, 13, 24, 46, 57, 90, 89);
        full(b, 0, 16);
        Check.due("firstFull", b.firstFull(), 0);
        b.set(1, 1);
        play.balls(40);
        full(b, 0, 16);
        b.take(90);
        full(b, 0, NONE);
        b.put(0, 1, 88);
        full(b, 0, 15);
        b.take(88);
        b.put(0, 1, 81);
        full(b, 0, 18 + aheadOf(b, new int[] {81}));
        play.end();
        full(b, 0, aheadOf(b, new int[] {1, 12, 23, 34, 45, 13, 24, 46, 57, 81, 2, 14, 58, 69, 70}));
    }

    /** How far ahead the last of some numbers is drawn, by next(). */
    private static int aheadOf(TombolaBooks b, int[] numbers) {
        int last = 0;
        for (int ahead = 1; ahead <= b.count(7); ahead++) {
            int ball = b.next(ahead);
            for (int number : numbers) {
                last = number == ball ? ahead : last;
            }
        }
        return last;
    }

    private static void share(TombolaBooks b, double due) {
        double got = b.drawnShare();
        Check.record(Double.doubleToRawLongBits(got) == Double.doubleToRawLongBits(due),
                "drawnShare answered " + got + ", due is " + due);
    }

    private static void share() {
        Play play = new Play();
        TombolaBooks b = play.books;
        share(b, 0.0);
        b.draw(45);
        share(b, 0.0);
        b.end();
        b.put(0, 0, 1);
        share(b, 0.0);
        b.put(0, 0, 11);
        b.put(3, 1, 22);
        play.balls(11, 50, 51);
        share(b, 1.0 / 3);
        play.balls(1);
        share(b, 2.0 / 3);
        b.set(1, 1);
        play.balls(21);
        share(b, 2.0 / 3);
        play.balls(22);
        share(b, 1.0);
        play.end();
        share(b, 0.0);
    }
}
