/** Promise 21. */
@Head("Promise 21: call")
final class Promise21Call {
    private static final int NONE = TombolaBooks.NONE;

    private Promise21Call() {
    }

    @Sentence("Returns a call of this evening.")
    static void ofThisEvening() {
        Play play = new Play().balls(45, 46);
        Check.due("the first evening", play.books.call(0, 0), 46);
        play.end();
        Check.due("no call yet", play.books.call(0, 0), NONE);
        play.balls(9);
        Check.due("the second evening", play.books.call(0, 0), 9);
        Check.due("none of the first one", play.books.call(1, 0), NONE);
    }

    @Sentence("`ago`: 0 for the latest one, and so on")
    static void ago() {
        Play play = new Play().balls(7, 90, 1, 45);
        int[] due = {45, 1, 90, 7, NONE};
        Bounds.inside(0, 4, () -> play.books, (b, ago) -> b.call(ago, 0), ago -> due[ago]);
        play.balls(8);
        Check.due("one further", play.books.call(1, 0), 45);
    }

    @Sentence("`what`: 0: the number that was drawn;")
    static void drawn() {
        Play play = new Play().slips(90, 44);
        Check.due("44", play.books.call(0, 0), 44);
        Check.due("90", play.books.call(1, 0), 90);
    }

    @Sentence("1: the number that was said")
    static void said() {
        Play play = new Play().slips(90, 44).balls(12);
        Check.due("12", play.books.call(0, 1), 12);
        Check.due("45 for 44", play.books.call(1, 1), 45);
        Check.due("1 for 90", play.books.call(2, 1), 1);
    }

    @Sentence("Returns the number;")
    static void returnsTheNumber() {
        TombolaBooks b = new TombolaBooks();
        b.draw(90);
        for (int ago = 0; ago < 90; ago++) {
            Check.due("the call of it", b.numberOf(b.call(ago, 0), 2), 90 - ago);
            Check.due("what was said", b.call(ago, 1), b.call(ago, 0));
        }
    }

    @Sentence("NONE if there are not so many.")
    static void notSoMany() {
        TombolaBooks b = new TombolaBooks();
        for (int calls = 0; calls <= 90; calls++) {
            Check.due("behind " + calls + " calls", b.call(calls, calls % 2), NONE);
            Check.record(calls == 0 || b.call(calls - 1, 0) == 15, "the first call, behind " + calls);
            if (calls < 90) {
                b.draw(1);
            }
        }
        Check.due("the greatest int", b.call(Integer.MAX_VALUE, 0), NONE);
        Check.due("the greatest int", b.call(Integer.MAX_VALUE, 1), NONE);
    }

    @Sentence("Throws `IllegalArgumentException` if ago is below 0,")
    static void agoBelow0() {
        for (int ago : new int[] {-1, -2, -90, Integer.MIN_VALUE}) {
            Bounds.thrown("call(" + ago + ", 0)", Bounds.VALUE, new TombolaBooks(), b -> b.call(ago, 0));
            Bounds.thrown("call(" + ago + ", 1)", Bounds.VALUE, Play.rich().books, b -> b.call(ago, 1));
        }
    }

    @Sentence("or what is not 0 or 1")
    static void whatOutOfRange() {
        Bounds.outside(0, 1, Bounds.VALUE, TombolaBooks::new, (b, what) -> b.call(0, what));
        Bounds.outside(0, 1, Bounds.VALUE, () -> Play.rich().books, (b, what) -> b.call(0, what));
        Bounds.outside(0, 1, Bounds.VALUE, TombolaBooks::new, (b, what) -> b.call(Integer.MAX_VALUE, what));
    }
}
