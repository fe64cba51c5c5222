/** "The drum". */
@Head("The drum")
final class TermsDrum {
    private TermsDrum() {
    }

    @Sentence("The drum has balls of all numbers, at first.")
    static void allBallsAtFirst() {
        TombolaBooks b = new TombolaBooks();
        Check.due("balls", b.count(7), 90);
        boolean[] seen = new boolean[91];
        for (int ahead = 1; ahead <= 90; ahead++) {
            Check.due("in the drum", b.numberOf(ahead, 2), 0);
            seen[b.next(ahead)] = true;
        }
        for (int number = 1; number <= 90; number++) {
            Check.record(seen[number], number + " is not in the drum");
        }
    }

    @Sentence("To draw a ball a lot is drawn of those that are in it, by ascending numbers;")
    static void ballsByAscendingNumbers() {
        TombolaBooks b = new TombolaBooks();
        b.seed(Play.lotFor(0, 90));
        Check.due("the least of 90", b.draw(1), 1);
        b.seed(Play.lotFor(88, 89));
        Check.due("the greatest of 89", b.draw(1), 90);
        b.seed(Play.lotFor(0, 88));
        Check.due("the least of 88", b.draw(1), 2);
        b.seed(Play.lotFor(42, 87));
        Check.due("the one in the middle of 87", b.draw(1), 45);
        b.seed(Play.lotFor(42, 86));
        Check.due("the one behind it", b.draw(1), 46);
    }

    @Sentence("the ball is out of it.")
    static void noBallIsDrawnTwice() {
        TombolaBooks b = new TombolaBooks();
        boolean[] seen = new boolean[91];
        for (int call = 1; call <= 90; call++) {
            int ball = b.draw(1);
            Check.record(!seen[ball], ball + " is drawn again");
            seen[ball] = true;
            Check.due("balls left", b.count(7), 90 - call);
        }
        Check.dueThrow("draw(1) of none", Bounds.STATE, () -> b.draw(1));
    }

    @Sentence("The caller says its number;")
    static void theNumberIsSaid() {
        Play play = new Play().balls(90, 1, 45);
        Check.due("45", play.books.call(0, 1), 45);
        Check.due("1", play.books.call(1, 1), 1);
        Check.due("90", play.books.call(2, 1), 90);
        Check.due("how often 90 was said", play.books.numberOf(90, 3), 1);
    }

    @Sentence("but each call whose number (from 1 up, since the evening began) has no rest by setting 1 is a slip")
    static void slipsByTheCallsNumber() {
        int[] settings = {1, 2, 3, 45, 46, 89, 90, 91, 99};
        int[] slips = {90, 45, 30, 2, 1, 1, 1, 0, 0};
        for (int i = 0; i < settings.length; i++) {
            TombolaBooks b = new Play().set(1, settings[i]).books;
            b.draw(90);
            Check.due("slips by " + settings[i], b.count(9), slips[i]);
            for (int call = 1; call <= 90; call++) {
                boolean isSlip = b.call(90 - call, 0) != b.call(90 - call, 1);
                Check.record(isSlip == (call % settings[i] == 0), "call " + call + " by " + settings[i]);
            }
        }
    }

    @Sentence("(from 1 up, since the evening began)")
    static void callsAreCountedSinceTheEveningBegan() {
        TombolaBooks b = new Play().set(1, 3).books;
        b.draw(2);
        Check.due("no slip yet", b.count(9), 0);
        b.end();
        b.draw(2);
        Check.due("nor in the second evening", b.count(9), 0);
        b.draw(1);
        Check.due("the third call is one", b.count(9), 1);
        Check.due("what was said", b.call(0, 1), b.call(0, 0) % 90 + 1);
        // A setting that is changed holds for the number of the call, not from the change on.
        b.set(1, 2);
        b.draw(1);
        Check.due("the fourth call is one by 2", b.count(9), 2);
    }

    @Sentence("(with setting 1 as 0 none is):")
    static void noSlipsWith0() {
        TombolaBooks b = new TombolaBooks();
        b.draw(90);
        Check.due("slips", b.count(9), 0);
        for (int ago = 0; ago < 90; ago++) {
            Check.due("what was said " + ago + " ago", b.call(ago, 1), b.call(ago, 0));
        }
    }

    @Sentence("the next number is said, 1 for 90.")
    static void theNextNumberIsSaid() {
        Play play = new Play().slips(1, 9, 88, 89, 90);
        int[] due = {1, 90, 89, 10, 2};
        for (int ago = 0; ago < due.length; ago++) {
            Check.due("said " + ago + " ago", play.books.call(ago, 1), due[ago]);
        }
        Check.due("1 was drawn", play.books.numberOf(1, 2), 1);
        Check.due("1 was said for 90", play.books.numberOf(1, 3), 1);
    }

    @Sentence("Said numbers can be the same.")
    static void saidTwice() {
        Play play = new Play().slips(44, 90).balls(45, 1);
        Check.due("45 was said", play.books.numberOf(45, 3), 2);
        Check.due("1 was said", play.books.numberOf(1, 3), 2);
        Check.due("44 was not", play.books.numberOf(44, 3), 0);
        Check.due("45 was drawn", play.books.numberOf(45, 2), 3);
    }
}
