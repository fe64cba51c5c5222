/** Promise 27. The rows of the card 0: 1 12 23 34 45, 13 24 46 57 90, 2 14 58 69 70. */
@Head("Promise 27: missing")
final class Promise27Missing {
    private static final int NONE = TombolaBooks.NONE;
    private static final int LINE = 0;
    private static final int CORNERS = 1;
    private static final int TWO_LINES = 2;
    private static final int FULL = 3;

    private Promise27Missing() {
    }

    private static Play whole() {
        return new Play().wholeCards(1);
    }

    private static void missing(TombolaBooks b, int game, int many, int number) {
        Check.due("missing(0, " + game + ", 0)", b.missing(0, game, 0), many);
        Check.due("missing(0, " + game + ", 1)", b.missing(0, game, 1), number);
    }

    @Sentence("Tells how far a card is from a game, by what was drawn.")
    static void byWhatWasDrawn() {
        Play play = whole().balls(1, 12, 23).slips(33, 44);
        Check.due("all of the row was said", play.books.cardOf(0, 4), 5);
        missing(play.books, LINE, 2, NONE);
        play.slips(34);
        missing(play.books, LINE, 1, 45);
        // Neither being bought nor a game that is won matters.
        Play won = new Play().bought(1).balls(1, 12, 23, 34, 45);
        won.books.claim(0, LINE);
        missing(won.books, LINE, 0, NONE);
        missing(won.books, FULL, 10, NONE);
    }

    @Sentence("`card`: 0 to 5")
    static void card() {
        Bounds.inside(0, 5, () -> new Play().fullBook().books, (b, card) -> b.missing(card, FULL, 0), card -> 15);
        Bounds.inside(0, 5, () -> new Play().wholeCards(3).books, (b, card) -> b.missing(card, FULL, 0),
                card -> card < 3 ? 15 : NONE);
    }

    @Sentence("`game`: 0 to 3")
    static void game() {
        int[] due = {5, 4, 10, 15};
        Bounds.inside(0, 3, () -> whole().books, (b, game) -> b.missing(0, game, 0), game -> due[game]);
    }

    @Sentence("`what`: 0: how many numbers are missing")
    static void howManyAreMissing() {
        Play play = whole();
        int left = 15;
        for (int[] row : Play.ROWS[0]) {
            for (int number : row) {
                Check.due("of a full card", play.books.missing(0, FULL, 0), left);
                play.balls(number);
                left--;
            }
        }
        Check.due("none", play.books.missing(0, FULL, 0), 0);
        Play corners = whole();
        int[] numbers = {70, 1, 2, 45};
        for (int i = 0; i < 4; i++) {
            Check.due("of the corners", corners.books.missing(0, CORNERS, 0), 4 - i);
            corners.balls(numbers[i]);
        }
        corners.balls(13, 90, 12, 69);
        Check.due("none", corners.books.missing(0, CORNERS, 0), 0);
    }

    @Sentence("(of a line: of the row with the fewest missing ones;")
    static void ofALine() {
        Play play = whole().balls(1, 13, 2);
        missing(play.books, LINE, 4, NONE);
        play.balls(24, 46);
        missing(play.books, LINE, 2, NONE);
        play.balls(14, 58, 69);
        missing(play.books, LINE, 1, 70);
        play.balls(12, 23, 34, 45);
        missing(play.books, LINE, 0, NONE);
    }

    @Sentence("of two lines: of the two rows with the fewest);")
    static void ofTwoLines() {
        Play play = whole().balls(1, 13, 2);
        missing(play.books, TWO_LINES, 8, NONE);
        play.balls(24, 46);
        missing(play.books, TWO_LINES, 6, NONE);
        play.balls(14, 58, 69);
        missing(play.books, TWO_LINES, 3, NONE);
        play.balls(57, 90);
        missing(play.books, TWO_LINES, 1, 70);
        play.balls(12, 23, 34, 45);
        missing(play.books, TWO_LINES, 0, NONE);
        missing(play.books, FULL, 1, 70);
    }

    @Sentence("1: the number that is missing, if it is just one")
    static void theNumberThatIsMissing() {
        for (int[] row : Play.ROWS[0]) {
            for (int last : row) {
                Play play = whole();
                for (int[] each : Play.ROWS[0]) {
                    for (int number : each) {
                        if (number != last) {
                            play.balls(number);
                        }
                    }
                }
                missing(play.books, FULL, 1, last);
            }
        }
        int[] corners = {1, 45, 2, 70};
        for (int last = 0; last < 4; last++) {
            Play play = whole();
            for (int i = 1; i <= 3; i++) {
                play.balls(corners[(last + i) % 4]);
            }
            missing(play.books, CORNERS, 1, corners[last]);
        }
    }

    @Sentence("1: the number that is missing,")
    static void theNumberThatIsMissingOfEachCard() {
        for (int row = 0; row < 18; row++) {
            int[] numbers = Play.FULL[row / 3][row % 3];
            Play play = new Play().fullBook().balls(numbers[0], numbers[1], numbers[2], numbers[4]);
            Check.due("of the line " + row, play.books.missing(row / 3, LINE, 1), numbers[3]);
        }
    }

    @Sentence("1: the number that is missing,")
    static void theCornerThatIsMissingOfEachCard() {
        for (int card = 0; card < 6; card++) {
            int[] top = Play.FULL[card][0];
            int[] low = Play.FULL[card][2];
            int[] corners = {top[0], top[4], low[0], low[4]};
            for (int last = 0; last < 4; last++) {
                Play play = new Play().fullBook();
                for (int i = 1; i <= 3; i++) {
                    play.balls(corners[(last + i) % 4]);
                }
                Check.due("of the corners", play.books.missing(card, CORNERS, 0), 1);
                Check.due("the corner", play.books.missing(card, CORNERS, 1), corners[last]);
            }
        }
    }

    @Sentence("(of several rows with just one the first one;")
    static void ofAllRowsTheFirstOneOfTheCard() {
        Play play = new Play().fullBook();
        for (int[][] card : Play.FULL) {
            for (int[] row : card) {
                play.balls(row[0], row[1], row[3], row[4]);
            }
        }
        for (int card = 0; card < 6; card++) {
            Check.due("of a line", play.books.missing(card, LINE, 0), 1);
            Check.due("the first one of the card " + card, play.books.missing(card, LINE, 1), Play.FULL[card][0][2]);
            Check.due("of two lines", play.books.missing(card, TWO_LINES, 0), 2);
            Check.due("not just one", play.books.missing(card, TWO_LINES, 1), NONE);
            Check.due("of a full card", play.books.missing(card, FULL, 0), 3);
        }
    }

    @Sentence("(of several rows with just one the first one;")
    static void ofSeveralRowsTheFirstOne() {
        Play play = whole().balls(14, 58, 69, 70);
        missing(play.books, LINE, 1, 2);
        play.balls(13, 24, 46, 57);
        missing(play.books, LINE, 1, 90);
        play.balls(1, 12, 34, 45);
        missing(play.books, LINE, 1, 23);
    }

    @Sentence("of two lines likewise),")
    static void ofTwoLinesLikewise() {
        // A line, and one row with just one, whichever row it is.
        missing(whole().balls(1, 12, 23, 34, 45, 13, 24, 57, 90).books, TWO_LINES, 1, 46);
        missing(whole().balls(2, 14, 58, 69, 70, 12, 23, 34, 45).books, TWO_LINES, 1, 1);
        missing(whole().balls(13, 24, 46, 57, 90, 2, 14, 58, 69).books, TWO_LINES, 1, 70);
        // A line, and two rows with just one: the first one.
        missing(whole().balls(1, 12, 23, 34, 45, 24, 46, 57, 90, 2, 14, 58, 69).books, TWO_LINES, 1, 13);
        missing(whole().balls(13, 24, 46, 57, 90, 1, 12, 23, 34, 2, 14, 58, 69).books, TWO_LINES, 1, 45);
        missing(whole().balls(2, 14, 58, 69, 70, 1, 12, 23, 34, 24, 46, 57, 90).books, TWO_LINES, 1, 45);
        // Three rows with just one: two numbers are missing.
        missing(whole().balls(1, 12, 23, 34, 13, 24, 46, 57, 2, 14, 58, 69).books, TWO_LINES, 2, NONE);
    }

    @Sentence("otherwise NONE;")
    static void otherwiseNone() {
        for (int game = 0; game < 4; game++) {
            TombolaBooks b = whole().books;
            Check.due("more than one is missing", b.missing(0, game, 1), NONE);
            b.draw(90);
            Check.due("none is missing", b.missing(0, game, 1), NONE);
            Check.due("none", b.missing(0, game, 0), 0);
        }
        missing(whole().balls(1, 45).books, CORNERS, 2, NONE);
        missing(whole().balls(1, 12, 23).books, LINE, 2, NONE);
    }

    @Sentence("NONE for both if the card is not whole")
    static void notWhole() {
        for (int[] row : Play.ROWS[0]) {
            TombolaBooks b = whole().books;
            b.draw(90);
            b.take(row[2]);
            for (int game = 0; game < 4; game++) {
                missing(b, game, NONE, NONE);
                Check.due("an empty card", b.missing(5, game, 0), NONE);
                Check.due("an empty card", b.missing(5, game, 1), NONE);
            }
        }
    }

    @Sentence("Returns the number.")
    static void returnsTheNumber() {
        Play play = whole().balls(1, 12, 23, 34);
        Check.due("how many", play.books.missing(0, LINE, 0), 1);
        Check.due("which one", play.books.missing(0, LINE, 1), 45);
        Check.due("how many of a full card", play.books.missing(0, FULL, 0), 11);
    }

    @Sentence("Throws `IndexOutOfBoundsException` if there is no such card or game")
    static void noSuchCardOrGame() {
        for (int what = 0; what < 3; what++) {
            int which = what;
            Bounds.outside(0, 5, Bounds.PLACE, TombolaBooks::new, (b, card) -> b.missing(card, 0, which));
            Bounds.outside(0, 3, Bounds.PLACE, TombolaBooks::new, (b, game) -> b.missing(0, game, which));
        }
        Bounds.outside(0, 3, Bounds.PLACE, () -> whole().books, (b, game) -> b.missing(0, game, 0));
    }

    @Sentence("Throws `IllegalArgumentException` if what is not 0 or 1")
    static void whatOutOfRange() {
        Bounds.outside(0, 1, Bounds.VALUE, TombolaBooks::new, (b, what) -> b.missing(0, 0, what));
        Bounds.outside(0, 1, Bounds.VALUE, () -> whole().books, (b, what) -> b.missing(0, 3, what));
    }
}
