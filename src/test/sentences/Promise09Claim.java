/** Promise 9. */
@Head("Promise 9: claim")
final class Promise09Claim {
    private Promise09Claim() {
    }

    /** Six bought cards, of all of which all was drawn. */
    private static TombolaBooks allDrawn() {
        TombolaBooks b = new Play().fullBook().buy(6).books;
        b.draw(90);
        return b;
    }

    @Sentence("A card claims a game.")
    static void aCardClaims() {
        TombolaBooks b = allDrawn();
        b.claim(5, 3);
        Check.due("the game", b.gameOf(3, 0), 32);
        Check.due("the call", b.gameOf(3, 1), 90);
        Check.due("the card", b.cardOf(5, 6), 8);
        Check.due("won", b.count(10), 1);
        b.claim(5, 3);
        Check.due("turned down", b.count(11), 1);
        Check.due("turned down of the card", b.cardOf(5, 8), 1);
        Check.due("the other games are not won", b.gameOf(0, 0) + b.gameOf(1, 0) + b.gameOf(2, 0), 0);
    }

    @Sentence("Undoable, also if it is turned down.")
    static void undoable() {
        Probe.undoable("a claim that wins", () -> Play.rich().books, b -> Check.due("line", b.claim(0, 0), 0));
        Probe.undoable("reason 2", () -> Play.rich().books, b -> Check.due("line", b.claim(1, 0), 2));
        Probe.undoable("reason 4", () -> Play.rich().books, b -> Check.due("full", b.claim(1, 3), 4));
        Probe.undoable("reason 1", () -> drawnOn().books, b -> Check.due("line", b.claim(0, 0), 1));
    }

    private static Play drawnOn() {
        Play play = Play.rich();
        play.books.draw(1);
        return play;
    }

    @Sentence("`card`: 0 to 5")
    static void card() {
        Bounds.inside(0, 5, Promise09Claim::allDrawn, (b, card) -> b.claim(card, 3) + b.gameOf(3, 0),
                card -> 1 << card);
    }

    @Sentence("`game`: 0 to 3")
    static void game() {
        Bounds.inside(0, 3, Promise09Claim::allDrawn, (b, game) -> b.claim(2, game) + b.cardOf(2, 6),
                game -> 1 << game);
    }

    @Sentence("Returns 0 if it wins it;")
    static void returns0() {
        TombolaBooks b = allDrawn();
        for (int card = 0; card < 6; card++) {
            for (int game = 0; game < 4; game++) {
                Check.due("a claim behind the last call", b.claim(card, game), 0);
            }
            Check.due("games of the card", b.cardOf(card, 6), 15);
        }
        Check.due("won", b.count(10), 24);
        Check.due("turned down", b.count(11), 0);
    }

    @Sentence("otherwise the reason.")
    static void returnsTheReason() {
        Play play = new Play().bought(2).balls(1, 12, 23, 34).slips(44);
        TombolaBooks b = play.books;
        Check.due("said, not drawn", b.claim(0, 0), 3);
        Check.due("neither drawn nor said", b.claim(1, 0), 4);
        play.balls(45, 89).set(2, 1);
        Check.due("the last ball is none of it", b.claim(0, 0), 5);
        play.set(2, 0);
        Check.due("it wins", b.claim(0, 0), 0);
        Check.due("it won already", b.claim(0, 0), 2);
        play.balls(90);
        Check.due("the game is won", b.claim(0, 0), 1);
        Check.due("turned down", b.count(11), 5);
        Check.due("turned down of the card 0", b.cardOf(0, 8), 4);
        Check.due("turned down of the card 1", b.cardOf(1, 8), 1);
    }

    @Sentence("Throws `IndexOutOfBoundsException` if there is no such card or game")
    static void noSuchCardOrGame() {
        Bounds.outside(0, 5, Bounds.PLACE, TombolaBooks::new, (b, card) -> b.claim(card, 0));
        Bounds.outside(0, 3, Bounds.PLACE, Promise09Claim::allDrawn, (b, game) -> b.claim(0, game));
        Bounds.outside(0, 3, Bounds.PLACE, TombolaBooks::new, (b, game) -> b.claim(0, game));
    }

    @Sentence("Throws `IllegalStateException` if the card was not bought")
    static void theCardWasNotBought() {
        TombolaBooks b = new Play().wholeCards(2).buy(1).books;
        b.draw(90);
        Bounds.thrown("a whole card", Bounds.STATE, b, each -> each.claim(1, 3));
        Bounds.thrown("an empty card", Bounds.STATE, b, each -> each.claim(5, 0));
        Check.due("nothing is counted", b.count(10) + b.count(11), 0);
        b.end();
        Bounds.thrown("a card of the evening before", Bounds.STATE, b, each -> each.claim(0, 0));
    }
}
