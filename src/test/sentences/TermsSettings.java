/** "Settings". */
@Head("Settings")
final class TermsSettings {
    private TermsSettings() {
    }

    private static void bounds(int setting, int least, int greatest, int first) {
        Check.due("at first", new TombolaBooks().setting(setting), first);
        Bounds.inside(least, greatest, TombolaBooks::new, (b, value) -> {
            b.set(setting, value);
            return b.setting(setting);
        }, value -> value);
        Bounds.outside(least, greatest, Bounds.VALUE, TombolaBooks::new, (b, value) -> b.set(setting, value));
    }

    @Sentence("0: the price of a card, 1 to 99, at first 10;")
    static void thePrice() {
        bounds(0, 1, 99, 10);
        Check.due("the price", new Play().wholeCards(1).set(0, 98).books.buy(0), 98);
    }

    @Sentence("1: slips, 0 to 99, at first 0;")
    static void slips() {
        bounds(1, 0, 99, 0);
        TombolaBooks b = new Play().set(1, 30).books;
        b.draw(90);
        Check.due("slips", b.count(9), 3);
    }

    @Sentence("2: whether the last ball must be claimed, 0 or 1, at first 0.")
    static void theLastBall() {
        bounds(2, 0, 1, 0);
        Play play = new Play().bought(1).balls(1, 12, 23, 34, 45, 89);
        Check.due("need not be claimed at first", play.books.ifClaimed(0, 0), 0);
        Check.due("must be claimed with 1", play.set(2, 1).books.ifClaimed(0, 0), 5);
        Check.due("need not be claimed with 0", play.set(2, 0).books.ifClaimed(0, 0), 0);
    }
}
