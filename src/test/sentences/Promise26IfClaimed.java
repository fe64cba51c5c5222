/** Promise 26. */
@Head("Promise 26: ifClaimed")
final class Promise26IfClaimed {
    private Promise26IfClaimed() {
    }

    private static TombolaBooks allDrawn() {
        TombolaBooks b = new Play().fullBook().buy(6).books;
        b.draw(90);
        return b;
    }

    @Sentence("Tells what a claim would bring.")
    static void itOnlyTells() {
        TombolaBooks b = allDrawn();
        Check.due("it would win", b.ifClaimed(0, 3), 0);
        Check.due("it would still win", b.ifClaimed(0, 3), 0);
        Check.due("nothing is won", b.gameOf(3, 0) + b.count(10), 0);
        b.claim(0, 3);
        Check.due("it would be turned down", b.ifClaimed(0, 3), 2);
        Check.due("nothing is turned down", b.count(11) + b.cardOf(0, 8), 0);
    }

    @Sentence("`card`: 0 to 5")
    static void card() {
        Bounds.inside(0, 5, Promise26IfClaimed::allDrawn, (b, card) -> {
            b.claim(card, 3);
            return b.ifClaimed(card, 3) * 10 + b.ifClaimed((card + 1) % 6, 3);
        }, card -> 20);
    }

    @Sentence("`game`: 0 to 3")
    static void game() {
        Bounds.inside(0, 3, Promise26IfClaimed::allDrawn, (b, game) -> {
            b.claim(5, game);
            return b.ifClaimed(5, game) * 10 + b.ifClaimed(5, 3 - game);
        }, game -> 20);
    }

    @Sentence("Returns what claim() would return;")
    static void whatClaimWouldReturn() {
        Play play = new Play().bought(2);
        int[] seen = new int[6];
        play.balls(1, 12, 23, 34).slips(44);
        tellAndClaim(play.books, seen);
        play.balls(45);
        tellAndClaim(play.books, seen);
        tellAndClaim(play.books, seen);
        play.balls(2, 70, 89).set(2, 1);
        tellAndClaim(play.books, seen);
        for (int reason = 0; reason <= 5; reason++) {
            Check.record(seen[reason] > 0, "no claim brought " + reason);
        }
    }

    private static void tellAndClaim(TombolaBooks b, int[] seen) {
        for (int card = 0; card < 2; card++) {
            for (int game = 0; game < 4; game++) {
                int told = b.ifClaimed(card, game);
                Check.due("the card " + card + ", the game " + game, b.claim(card, game), told);
                seen[told]++;
            }
        }
    }

    @Sentence("NONE if it would throw IllegalStateException.")
    static void noneIfNotBought() {
        Play play = new Play().wholeCards(2).buy(1);
        play.books.draw(90);
        for (int game = 0; game < 4; game++) {
            Check.due("whole, not bought", play.books.ifClaimed(1, game), TombolaBooks.NONE);
            Check.due("empty", play.books.ifClaimed(5, game), TombolaBooks.NONE);
            Check.due("bought", play.books.ifClaimed(0, game), 0);
        }
        play.end();
        Check.due("bought in the evening before", play.books.ifClaimed(0, 0), TombolaBooks.NONE);
    }

    @Sentence("Throws `IndexOutOfBoundsException` if there is no such card or game")
    static void noSuchCardOrGame() {
        Bounds.outside(0, 5, Bounds.PLACE, TombolaBooks::new, (b, card) -> b.ifClaimed(card, 0));
        Bounds.outside(0, 3, Bounds.PLACE, TombolaBooks::new, (b, game) -> b.ifClaimed(0, game));
        Bounds.outside(0, 3, Bounds.PLACE, Promise26IfClaimed::allDrawn, (b, game) -> b.ifClaimed(5, game));
    }
}
