/** Promises 9, 26 and 27: claim, ifClaimed, missing. */
public final class ClaimsTest {
    private static final int NONE = TombolaBooks.NONE;
    private static final int LINE = 0;
    private static final int CORNERS = 1;
    private static final int TWO_LINES = 2;
    private static final int FULL = 3;

    public static void main(String[] args) {
        nothingAheadOfTheFirstCall();
        line();
        corners();
        twoLines();
        fullCard();
        wonBehindAnEarlierCall();
        saidButNotDrawn();
        twoLinesSaid();
        partlyDrawnAndPartlySaid();
        lastBall();
        lastBallOfTwoLines();
        lastBallOfCornersAndFullCard();
        whoCannotClaim();
        missingOfCardsThatAreNotWhole();
        missingNumbers();
        Check.finish();
    }

    /** What ifClaimed tells, and claim answers; both count as the answer says. */
    private static void claim(TombolaBooks b, int card, int game, int reason) {
        String what = "(" + card + ", " + game + ")";
        int won = b.count(10);
        int turnedDown = b.count(11);
        int ofCard = b.cardOf(card, 8);
        Check.due("ifClaimed" + what, b.ifClaimed(card, game), reason);
        Check.due("ifClaimed counts nothing", b.count(10) + b.count(11), won + turnedDown);
        Check.due("claim" + what, b.claim(card, game), reason);
        Check.due("won behind claim" + what, b.count(10), won + (reason == 0 ? 1 : 0));
        Check.due("turned down behind claim" + what, b.count(11), turnedDown + (reason == 0 ? 0 : 1));
        Check.due("of the card", b.cardOf(card, 8), ofCard + (reason == 0 ? 0 : 1));
    }

    private static void nothingAheadOfTheFirstCall() {
        TombolaBooks b = new Play().bought(1).books;
        for (int game = 0; game < 4; game++) {
            claim(b, 0, game, 4);
        }
        b.set(2, 1);
        claim(b, 0, FULL, 4);
    }

    private static void line() {
        Play play = new Play().bought(2);
        TombolaBooks b = play.books;
        play.balls(13, 24, 46, 57);
        claim(b, 0, LINE, 4);
        play.balls(90);
        claim(b, 0, LINE, 0);
        Check.due("won by", b.gameOf(LINE, 0), 1);
        Check.due("won behind", b.gameOf(LINE, 1), 5);
        Check.due("games of the card", b.cardOf(0, 6), 1);
        claim(b, 0, LINE, 2);
        claim(b, 1, LINE, 4);
    }

    private static void corners() {
        Play play = new Play().bought(1);
        TombolaBooks b = play.books;
        play.balls(1, 45, 2);
        claim(b, 0, CORNERS, 4);
        play.balls(69, 13, 90);
        claim(b, 0, CORNERS, 4);
        play.balls(70);
        claim(b, 0, CORNERS, 0);
        Check.due("games of the card", b.cardOf(0, 6), 2);
    }

    private static void twoLines() {
        Play play = new Play().bought(1);
        TombolaBooks b = play.books;
        play.balls(1, 12, 23, 34, 45, 2, 14, 58, 69);
        claim(b, 0, TWO_LINES, 4);
        play.balls(70);
        claim(b, 0, TWO_LINES, 0);
        claim(b, 0, LINE, 0);
        claim(b, 0, CORNERS, 0);
        Check.due("games of the card", b.cardOf(0, 6), 7);
    }

    private static void fullCard() {
        Play play = new Play().bought(2);
        TombolaBooks b = play.books;
        play.balls(1, 12, 23, 34, 45, 2, 14, 58, 69, 70, 13, 24, 46, 57);
        claim(b, 0, FULL, 4);
        play.balls(90);
        claim(b, 0, FULL, 0);
        claim(b, 1, FULL, 4);
        claim(b, 0, FULL, 2);
        play.balls(3);
        claim(b, 0, FULL, 1);
    }

    private static void wonBehindAnEarlierCall() {
        Play play = new Play().bought(3);
        TombolaBooks b = play.books;
        play.balls(1, 12, 23, 34, 45, 3, 15, 25, 35, 47);
        claim(b, 1, LINE, 0);
        claim(b, 0, LINE, 0);
        Check.due("both won", b.gameOf(LINE, 0), 3);
        claim(b, 1, LINE, 2);
        play.balls(90);
        claim(b, 1, LINE, 1);
        claim(b, 2, LINE, 1);
        Check.due("won behind", b.gameOf(LINE, 1), 10);
        play.end();
        Check.due("no game is won in the new evening", b.gameOf(LINE, 0), 0);
        Check.due("nor by the card", b.cardOf(1, 6), 0);
        b.buy(2);
        play.balls(4, 18, 27, 36, 49);
        claim(b, 2, LINE, 0);
    }

    private static void saidButNotDrawn() {
        Play play = new Play().bought(1);
        TombolaBooks b = play.books;
        play.balls(1, 12, 23, 34);
        b.set(1, 5);
        play.balls(44);
        claim(b, 0, LINE, 3);
        // It is also reason 3 with all of it said and the last ball in it.
        b.set(2, 1);
        claim(b, 0, LINE, 3);
        b.set(2, 0);
        b.set(1, 0);
        play.balls(2, 70);
        claim(b, 0, CORNERS, 3);
        play.balls(45);
        claim(b, 0, LINE, 0);
        claim(b, 0, CORNERS, 0);
        claim(b, 0, FULL, 4);
        play.balls(13, 24, 46, 57, 14, 58, 69);
        b.set(1, 1);
        play.balls(89);
        claim(b, 0, FULL, 3);
        play.balls(90);
        claim(b, 0, FULL, 0);
    }

    private static void twoLinesSaid() {
        Play play = new Play().bought(1);
        TombolaBooks b = play.books;
        play.balls(1, 12, 23, 34, 45, 13, 24, 46, 57);
        claim(b, 0, TWO_LINES, 4);
        b.set(1, 1);
        play.balls(89);
        claim(b, 0, TWO_LINES, 3);
        // The line is drawn all the same.
        claim(b, 0, LINE, 0);
    }

    private static void partlyDrawnAndPartlySaid() {
        Play play = new Play().bought(1);
        TombolaBooks b = play.books;
        b.set(1, 1);
        play.balls(1, 12);
        b.set(1, 0);
        play.balls(23, 34, 45);
        // All drawn, though not all said: the card wins.
        Check.due("said of the card", b.cardOf(0, 4), 5);
        Check.due("1 was not said", b.numberOf(1, 3), 0);
        claim(b, 0, LINE, 0);
        Play other = new Play().bought(1);
        TombolaBooks c = other.books;
        c.set(1, 1);
        other.balls(1, 11);
        c.set(1, 0);
        other.balls(23, 34, 45);
        // 1 was drawn, but not said, 12 was said, but not drawn.
        claim(c, 0, LINE, 4);
    }

    private static void lastBall() {
        Play play = new Play().bought(2);
        TombolaBooks b = play.books;
        b.set(2, 1);
        play.balls(1, 12, 23, 34, 45, 13);
        claim(b, 0, LINE, 5);
        play.balls(3);
        claim(b, 0, LINE, 5);
        play.balls(24, 46, 90, 57);
        // 57 is in another line that the card holds.
        claim(b, 0, LINE, 0);
        play.balls(88);
        claim(b, 0, LINE, 1);
        b.set(2, 0);
        claim(b, 0, TWO_LINES, 0);
    }

    private static void lastBallOfTwoLines() {
        Play play = new Play().bought(1);
        TombolaBooks b = play.books;
        b.set(2, 1);
        play.balls(1, 12, 23, 34, 45, 2, 14, 58, 69, 70, 13);
        claim(b, 0, TWO_LINES, 5);
        play.balls(24, 46, 57, 90);
        claim(b, 0, TWO_LINES, 0);
        claim(b, 0, FULL, 0);
        claim(b, 0, CORNERS, 5);
    }

    private static void lastBallOfCornersAndFullCard() {
        Play play = new Play().bought(1);
        TombolaBooks b = play.books;
        b.set(2, 1);
        play.balls(1, 45, 2, 70);
        Check.due("corners, by the ball 70", b.ifClaimed(0, CORNERS), 0);
        play.balls(12);
        claim(b, 0, CORNERS, 5);
        play.balls(23, 34, 14, 58, 69, 13, 24, 46, 57, 90);
        Check.due("full, by the ball 90", b.ifClaimed(0, FULL), 0);
        play.balls(89);
        claim(b, 0, FULL, 5);
    }

    private static void whoCannotClaim() {
        TombolaBooks b = new Play().wholeCards(1).books;
        b.draw(90);
        Check.due("ifClaimed", b.ifClaimed(0, FULL), NONE);
        Check.dueThrow("claim", IllegalStateException.class, () -> b.claim(0, FULL));
        Check.dueThrow("claim of an empty card", IllegalStateException.class, () -> b.claim(5, LINE));
        Check.due("nothing is counted", b.count(10) + b.count(11), 0);
    }

    private static void missingOfCardsThatAreNotWhole() {
        TombolaBooks b = new Play().wholeCards(1).books;
        b.take(70);
        for (int game = 0; game < 4; game++) {
            missing(b, 0, game, NONE, NONE);
            missing(b, 5, game, NONE, NONE);
        }
        b.put(0, 2, 71);
        missing(b, 0, FULL, 15, NONE);
    }

    private static void missing(TombolaBooks b, int card, int game, int many, int number) {
        String what = "missing(" + card + ", " + game + ", ";
        Check.due(what + "0)", b.missing(card, game, 0), many);
        Check.due(what + "1)", b.missing(card, game, 1), number);
    }

    private static void missingNumbers() {
        Play play = new Play().wholeCards(1);
        TombolaBooks b = play.books;
        missing(b, 0, LINE, 5, NONE);
        missing(b, 0, CORNERS, 4, NONE);
        missing(b, 0, TWO_LINES, 10, NONE);
        missing(b, 0, FULL, 15, NONE);
        play.balls(13, 24, 46, 90);
        missing(b, 0, LINE, 1, 57);
        missing(b, 0, TWO_LINES, 6, NONE);
        play.balls(1, 23, 34, 45);
        // Two rows with just one: the first one tells.
        missing(b, 0, LINE, 1, 12);
        missing(b, 0, TWO_LINES, 2, NONE);
        missing(b, 0, CORNERS, 2, NONE);
        play.balls(57, 2);
        missing(b, 0, CORNERS, 1, 70);
        missing(b, 0, LINE, 0, NONE);
        missing(b, 0, TWO_LINES, 1, 12);
        play.balls(14, 58, 70);
        // Two rows with just one, beside a line.
        missing(b, 0, TWO_LINES, 1, 12);
        missing(b, 0, CORNERS, 0, NONE);
        missing(b, 0, FULL, 2, NONE);
        play.balls(12);
        missing(b, 0, TWO_LINES, 0, NONE);
        missing(b, 0, FULL, 1, 69);
        // What is said does not matter.
        b.set(1, 1);
        play.balls(68);
        missing(b, 0, FULL, 1, 69);
        play.balls(69);
        missing(b, 0, FULL, 0, NONE);
    }
}
