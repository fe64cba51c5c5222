/** "Claims". The rows of the card 0: 1 12 23 34 45, 13 24 46 57 90, 2 14 58 69 70. */
@Head("Claims")
final class TermsClaims {
    private static final int LINE = 0;
    private static final int CORNERS = 1;
    private static final int TWO_LINES = 2;
    private static final int FULL = 3;

    private TermsClaims() {
    }

    private static Play bought() {
        return new Play().bought(1);
    }

    private static void claims(String what, Play play, int game, int due) {
        Check.due(what + ": ifClaimed", play.books.ifClaimed(0, game), due);
        Check.due(what + ": claim", play.books.claim(0, game), due);
    }

    /** What a claim of the card 0 brings behind these balls, each of which is said. */
    private static void behind(int game, int due, int... balls) {
        claims("behind " + balls.length + " balls", bought().balls(balls), game, due);
    }

    private static int[] without(int number) {
        int[] others = new int[14];
        int size = 0;
        for (int[] row : Play.ROWS[0]) {
            for (int each : row) {
                if (each != number) {
                    others[size] = each;
                    size++;
                }
            }
        }
        return others;
    }

    @Sentence("There are four games:")
    static void fourGames() {
        Bounds.inside(0, 3, () -> bought().balls(Play.ROWS[0][0]).books, (b, game) -> b.claim(0, game),
                game -> game == LINE ? 0 : 4);
        Bounds.outside(0, 3, Bounds.PLACE, () -> bought().books, (b, game) -> b.claim(0, game));
    }

    @Sentence("0: a line: all numbers of one of its rows (the card names no row: any one does);")
    static void aLine() {
        for (int[] row : Play.ROWS[0]) {
            behind(LINE, 0, row);
            behind(LINE, 4, row[0], row[1], row[2], row[3]);
            behind(LINE, 4, row[1], row[2], row[3], row[4]);
        }
        // Four of each row make no line.
        behind(LINE, 4, 1, 12, 23, 34, 13, 24, 46, 57, 2, 14, 58, 69);
    }

    @Sentence("0: a line: all numbers of one of its rows")
    static void aLineOfEachCard() {
        for (int row = 0; row < 18; row++) {
            TombolaBooks b = new Play().fullBook().buy(6).balls(Play.FULL[row / 3][row % 3]).books;
            for (int card = 0; card < 6; card++) {
                Check.due("the line " + row + ", the card " + card, b.claim(card, LINE), card == row / 3 ? 0 : 4);
            }
        }
    }

    @Sentence("1: the corners: the lowest and the greatest number of the row 0, and those of the row 2;")
    static void theCorners() {
        behind(CORNERS, 0, 1, 45, 2, 70);
        behind(CORNERS, 4, 45, 2, 70);
        behind(CORNERS, 4, 1, 2, 70);
        behind(CORNERS, 4, 1, 45, 70);
        behind(CORNERS, 4, 1, 45, 2);
        behind(CORNERS, 4, 1, 45, 13, 90);
        behind(CORNERS, 4, 13, 90, 2, 70);
        behind(CORNERS, 4, 12, 34, 14, 69);
    }

    private static int[] cornersOf(int card) {
        int[] top = Play.FULL[card][0];
        int[] low = Play.FULL[card][2];
        return new int[] {top[0], top[4], low[0], low[4]};
    }

    @Sentence("1: the corners:")
    static void theCornersOfEachCard() {
        for (int card = 0; card < 6; card++) {
            int[] corners = cornersOf(card);
            for (int last = 0; last < 4; last++) {
                Play play = new Play().fullBook().buy(6).set(2, 1);
                for (int i = 1; i <= 3; i++) {
                    play.balls(corners[(last + i) % 4]);
                }
                Check.due("three of the card " + card, play.books.claim(card, CORNERS), 4);
                play.balls(corners[last]);
                Check.due("four of the card " + card, play.books.ifClaimed(card, CORNERS), 0);
                play.balls(Play.FULL[card][0][2]);
                Check.due("and then none of them", play.books.claim(card, CORNERS), 5);
            }
        }
    }

    @Sentence("2: two lines;")
    static void twoLines() {
        int[][] rows = Play.ROWS[0];
        for (int out = 0; out < 3; out++) {
            int[] some = rows[out == 0 ? 1 : 0];
            int[] others = rows[out == 2 ? 1 : 2];
            Play play = bought().balls(some);
            claims("one line", play, TWO_LINES, 4);
            play.balls(others[0], others[1], others[2], others[3]);
            play.balls(rows[out][0], rows[out][1], rows[out][2], rows[out][4]);
            claims("a line and twice four", play, TWO_LINES, 4);
            play.balls(others[4]);
            claims("two lines", play, TWO_LINES, 0);
        }
    }

    @Sentence("2: two lines;")
    static void twoLinesOfEachCard() {
        for (int card = 0; card < 6; card++) {
            int[][] rows = Play.FULL[card];
            Play play = new Play().fullBook().buy(6).set(2, 1).balls(rows[2]).balls(rows[0]);
            Check.due("two lines of the card " + card, play.books.ifClaimed(card, TWO_LINES), 0);
            play.balls(rows[1][0]);
            Check.due("the last ball is of none", play.books.ifClaimed(card, TWO_LINES), 5);
            play.balls(rows[1][1], rows[1][2], rows[1][3]);
            Check.due("14 of the card " + card, play.books.claim(card, FULL), 4);
            play.balls(rows[1][4]);
            Check.due("all of the card " + card, play.books.claim(card, FULL), 0);
            Check.due("the third line", play.books.claim(card, TWO_LINES), 0);
        }
    }

    @Sentence("3: a full card: all numbers.")
    static void aFullCard() {
        for (int[] row : Play.ROWS[0]) {
            for (int last : row) {
                Play play = bought().balls(without(last));
                claims("without " + last, play, FULL, 4);
                play.balls(last);
                claims("with " + last, play, FULL, 0);
            }
        }
    }

    @Sentence("Only cards that are bought (which are whole) can claim.")
    static void onlyBoughtCards() {
        TombolaBooks b = new Play().wholeCards(2).books;
        b.buy(1);
        b.draw(90);
        for (int game = 0; game < 4; game++) {
            int which = game;
            Bounds.thrown("a whole card", Bounds.STATE, b, each -> each.claim(0, which));
            Bounds.thrown("an empty card", Bounds.STATE, b, each -> each.claim(5, which));
            Check.due("a bought card", b.claim(1, game), 0);
        }
        b.end();
        Bounds.thrown("bought for an evening that ended", Bounds.STATE, b, each -> each.claim(1, 0));
    }

    @Sentence("A claim is turned down, for the first of these reasons that is so:")
    static void theFirstReasonIsTold() {
        // 1 ahead of 2, and of 5: it won the line behind an earlier call, 89 is in no line.
        Play play = bought().balls(1, 12, 23, 34, 45);
        claims("the line", play, LINE, 0);
        play.balls(89).set(2, 1);
        claims("won behind an earlier call, by this card", play, LINE, 1);
        // 1 ahead of 4 and of 3: another card won the line, of this one nothing is drawn.
        Play other = new Play().bought(2).balls(3, 15, 25, 35, 47);
        other.books.claim(1, LINE);
        other.balls(89);
        claims("nothing drawn", other, LINE, 1);
        other.slips(11, 22, 33, 44).balls(1);
        Check.due("said of the card 0", other.books.cardOf(0, 4), 5);
        claims("said", other, LINE, 1);
        // 2 ahead of 5: the card won, and then the last ball must be claimed.
        Play twice = bought().balls(1, 12, 23, 34, 45, 89);
        claims("the line", twice, LINE, 0);
        twice.set(2, 1);
        claims("won already", twice, LINE, 2);
        // 3 and 4 ahead of 5: the last ball is none of the card.
        Play said = bought().balls(1, 12, 23, 34).slips(44).set(2, 1);
        claims("said", said, LINE, 3);
        claims("neither drawn nor said", said, FULL, 4);
    }

    @Sentence("1: the game is won, by claims behind an earlier call than the latest one;")
    static void reason1() {
        Play play = new Play().bought(3);
        play.balls(3, 15, 25, 35, 47, 4, 18, 27, 36, 49, 1, 12, 23, 34, 45);
        Check.due("the first winner", play.books.claim(1, LINE), 0);
        claims("behind the same call", play, LINE, 0);
        play.balls(90);
        Check.due("one call later", play.books.claim(2, LINE), 1);
        Check.due("another game is not won", play.books.claim(2, CORNERS), 4);
        play.books.undo();
        play.books.undo();
        play.books.undo();
        play.books.undo();
        Check.due("as if it were not drawn", play.books.claim(2, LINE), 0);
        play.end();
        play.books.buy(2);
        play.balls(4, 18, 27, 36, 49);
        Check.due("in the next evening it is not won", play.books.claim(2, LINE), 0);
    }

    @Sentence("2: this card won it already;")
    static void reason2() {
        Play play = bought().balls(1, 12, 23, 34, 45);
        claims("the first claim", play, LINE, 0);
        claims("the second claim", play, LINE, 2);
        claims("the third claim", play, LINE, 2);
        Check.due("it won once", play.books.count(10), 1);
        Check.due("the mask", play.books.gameOf(LINE, 0), 1);
    }

    @Sentence("3: not all of what is claimed was drawn, but all of it was said")
    static void reason3() {
        claims("a line", bought().balls(1, 12, 23, 34).slips(44), LINE, 3);
        claims("the line of the row 1", bought().balls(13, 24, 46, 57).slips(89), LINE, 3);
        claims("corners", bought().balls(1, 45, 2).slips(69), CORNERS, 3);
        claims("a full card", bought().balls(without(90)).slips(89), FULL, 3);
        claims("1 was said for 90", bought().balls(12, 23, 34, 45).slips(90), LINE, 3);
        // All was said by slips alone, nothing was drawn.
        Play slips = bought().slips(11, 22, 33, 44, 90);
        Check.due("drawn of the card", slips.books.cardOf(0, 3), 1);
        claims("said alone", slips, LINE, 3);
        // All of it was drawn later: the card wins.
        Play later = bought().balls(1, 12, 23, 34).slips(44).balls(45);
        claims("drawn behind that", later, LINE, 0);
    }

    @Sentence("(of two lines: two rows each of which was wholly said);")
    static void reason3OfTwoLines() {
        Play both = bought().balls(1, 12, 23, 34).slips(44).balls(13, 24, 46, 57).slips(89);
        claims("no row drawn, two said", both, TWO_LINES, 3);
        Play one = bought().balls(1, 12, 23, 34, 45, 13, 24, 46, 57).slips(89);
        claims("one row drawn, two said", one, TWO_LINES, 3);
        claims("a line was drawn", one, LINE, 0);
        // The row 0 was drawn, but not wholly said, the row 1 said, but not drawn.
        Play mixed = bought().slips(1).balls(12, 23, 34, 45, 13, 24, 46, 57).slips(89);
        Check.due("rows that were drawn", mixed.books.cardOf(0, 5), 1);
        claims("one row drawn, one said", mixed, TWO_LINES, 4);
        Play low = bought().balls(1, 12, 23, 34, 45, 2, 14, 58).slips(68, 69);
        claims("the rows 0 and 2 said", low, TWO_LINES, 3);
    }

    @Sentence("4: it was neither all drawn, nor all said;")
    static void reason4() {
        for (int game = 0; game < 4; game++) {
            claims("nothing of it", bought().balls(89), game, 4);
        }
        claims("four drawn and said", bought().balls(1, 12, 23, 34), LINE, 4);
        // 1 was drawn, but not said, 12 was said, but not drawn.
        claims("together all", bought().slips(1, 11).balls(23, 34, 45), LINE, 4);
    }

    @Sentence("5: with setting 2 as 1 the ball that was drawn last is none of the numbers by which the card "
            + "holds the game")
    static void reason5() {
        int[] corners = {1, 45, 2, 70};
        for (int last = 0; last < 4; last++) {
            Play play = bought().set(2, 1).balls(12);
            for (int i = 1; i <= 4; i++) {
                play.balls(corners[(last + i) % 4]);
            }
            claims("the last corner is " + corners[last], play, CORNERS, 0);
        }
        for (int last : new int[] {12, 34, 13, 90, 14, 69, 89}) {
            claims("corners, last " + last, bought().set(2, 1).balls(1, 45, 2, 70, last), CORNERS, 5);
            claims("with setting 2 as 0", bought().balls(1, 45, 2, 70, last), CORNERS, 0);
        }
        claims("full, last 57", bought().set(2, 1).balls(without(57)).balls(57), FULL, 0);
        claims("full, last 89", bought().set(2, 1).balls(without(57)).balls(57, 89), FULL, 5);
    }

    @Sentence("the ball that was drawn last")
    static void notTheOneThatWasSaidLast() {
        Play said = bought().set(2, 1).balls(1, 12, 23, 34, 45).slips(11);
        Check.due("12 was said last", said.books.call(0, 1), 12);
        claims("11 was drawn last", said, LINE, 5);
        Play drawn = bought().set(2, 1).balls(1, 12, 23, 34).slips(45);
        Check.due("46 was said last", drawn.books.call(0, 1), 46);
        claims("45 was drawn last", drawn, LINE, 0);
    }

    @Sentence("(of a line: none of a row that is wholly drawn;")
    static void reason5OfALine() {
        claims("the last one of it", bought().set(2, 1).balls(1, 12, 23, 34, 45), LINE, 0);
        claims("one of another row", bought().set(2, 1).balls(1, 12, 23, 34, 45, 13), LINE, 5);
        claims("one of no row", bought().set(2, 1).balls(1, 12, 23, 34, 45, 89), LINE, 5);
        // Two rows are wholly drawn, and the last ball is of the second one.
        Play two = bought().set(2, 1).balls(1, 12, 23, 34, 45, 13, 24, 46, 57, 90);
        claims("one of another line", two, LINE, 0);
    }

    @Sentence("of two lines: none of rows that are wholly drawn).")
    static void reason5OfTwoLines() {
        int[] lines = {1, 12, 23, 34, 45, 2, 14, 58, 69, 70};
        claims("one of them", bought().set(2, 1).balls(lines), TWO_LINES, 0);
        claims("one of the third row", bought().set(2, 1).balls(lines).balls(13), TWO_LINES, 5);
        claims("one of no row", bought().set(2, 1).balls(lines).balls(89), TWO_LINES, 5);
        claims("four of the third row", bought().set(2, 1).balls(lines).balls(13, 24, 46, 57), TWO_LINES, 5);
        claims("the third line", bought().set(2, 1).balls(lines).balls(13, 24, 46, 57, 90), TWO_LINES, 0);
    }

    @Sentence("Otherwise the card wins the game.")
    static void otherwiseItWins() {
        Play play = bought().balls(1, 12, 23, 34, 45);
        Check.due("a claim", play.books.claim(0, LINE), 0);
        Check.due("the mask of the game", play.books.gameOf(LINE, 0), 1);
        Check.due("behind the call", play.books.gameOf(LINE, 1), 5);
        Check.due("the mask of the card", play.books.cardOf(0, 6), 1);
        Check.due("claims that won", play.books.count(10), 1);
        Check.due("claims that were turned down", play.books.count(11), 0);
    }

    @Sentence("(Nothing can be claimed ahead of the first call: reason 4.)")
    static void aheadOfTheFirstCall() {
        for (int game = 0; game < 4; game++) {
            claims("in the first evening", bought(), game, 4);
            claims("with setting 2 as 1", bought().set(2, 1), game, 4);
            Play play = bought();
            play.books.draw(90);
            play.books.claim(0, game);
            play.end();
            play.books.buy(0);
            claims("in the second evening", play, game, 4);
        }
    }
}
