import java.util.List;
import java.util.function.Supplier;
import java.util.function.ToLongFunction;

/** "Exceptions". */
@Head("Exceptions")
final class TermsExceptions {
    private static final Class<? extends RuntimeException> PLACE = Bounds.PLACE;
    private static final Class<? extends RuntimeException> VALUE = Bounds.VALUE;
    private static final Class<? extends RuntimeException> STATE = Bounds.STATE;

    private TermsExceptions() {
    }

    /** A rich book with a full buffer that tells no evening, and one ball in the drum. */
    private static TombolaBooks busy() {
        Play play = Play.rich();
        play.books.draw(77);
        return play.type("d".repeat(60)).books;
    }

    private static void refused(Supplier<TombolaBooks> maker, Class<? extends RuntimeException> want,
            ToLongFunction<TombolaBooks> call) {
        TombolaBooks b = maker.get();
        Check.dueThrow("a refused call", want, () -> call.applyAsLong(b));
        Probe.same("behind a refused call", b, maker.get());
    }

    private static void refused(Class<? extends RuntimeException> want, ToLongFunction<TombolaBooks> call) {
        refused(TermsExceptions::busy, want, call);
    }

    @Sentence("A call that throws an exception changes nothing.")
    static void cardsAndEvening() {
        refused(PLACE, b -> b.put(6, 0, 8));
        refused(PLACE, b -> b.put(5, 3, 8));
        refused(VALUE, b -> b.put(5, 0, 91));
        refused(VALUE, b -> b.take(91));
        refused(STATE, b -> b.take(8));
        refused(STATE, b -> b.take(1));
        refused(PLACE, b -> b.fill(6, 1));
        refused(VALUE, b -> b.fill(5, 61));
        refused(STATE, b -> b.fill(0, 1));
        refused(PLACE, b -> b.buy(6));
        refused(STATE, b -> b.buy(2));
        refused(STATE, b -> b.buy(0));
        refused(VALUE, b -> b.seed(10000));
        refused(PLACE, b -> b.set(3, 1));
        refused(VALUE, b -> b.set(0, 100));
        refused(VALUE, b -> b.draw(91));
        refused(STATE, b -> b.draw(2));
        refused(PLACE, b -> b.claim(6, 0));
        refused(PLACE, b -> b.claim(0, 4));
        refused(STATE, b -> b.claim(2, 3));
    }

    @Sentence("A call that throws an exception changes nothing.")
    static void texts() {
        refused(VALUE, b -> b.append(127));
        refused(STATE, b -> b.append(100));
        refused(VALUE, TombolaBooks::run);
        refused(TombolaBooks::new, VALUE, TombolaBooks::run);
        refused(VALUE, b -> b.keep(2));
        refused(VALUE, b -> b.goBack(2));
        refused(STATE, b -> b.goBack(0));
        refused(TombolaBooks::new, STATE, TombolaBooks::undo);
    }

    @Sentence("A call that throws an exception changes nothing.")
    static void looks() {
        refused(PLACE, b -> b.at(0, 0, 9));
        refused(PLACE, b -> b.cardOf(6, 0));
        refused(VALUE, b -> b.cardOf(0, 9));
        refused(VALUE, b -> b.numberOf(91, 0));
        refused(VALUE, b -> b.call(-1, 0));
        refused(PLACE, b -> b.gameOf(4, 0));
        refused(VALUE, b -> b.gameOf(0, 4));
        refused(VALUE, b -> b.count(15));
        refused(PLACE, b -> b.setting(3));
        refused(PLACE, b -> b.whyNot(0, 3, 1));
        refused(VALUE, b -> b.whyNot(0, 0, 91));
        refused(PLACE, b -> b.ifClaimed(0, 4));
        refused(PLACE, b -> b.missing(0, 4, 0));
        refused(VALUE, b -> b.missing(0, 0, 2));
        refused(PLACE, b -> b.fullAt(6, 0));
        refused(VALUE, b -> b.fullAt(0, 2));
        refused(VALUE, b -> b.next(91));
    }

    @Sentence("If several exceptions apply, the one that is named first in the throws clause is thrown.")
    static void theFirstNamedException() {
        refused(PLACE, b -> b.put(6, 0, 91));
        refused(PLACE, b -> b.put(0, -1, 0));
        refused(VALUE, b -> b.take(0));
        refused(PLACE, b -> b.fill(-1, 0));
        refused(VALUE, b -> b.fill(0, 0));
        refused(PLACE, b -> b.set(3, 100));
        refused(VALUE, b -> b.draw(91));
        refused(PLACE, b -> b.claim(2, 4));
        refused(PLACE, b -> b.claim(-1, 0));
        refused(PLACE, b -> b.buy(-1));
        refused(VALUE, b -> b.append(32));
        refused(VALUE, b -> b.goBack(-1));
        refused(PLACE, b -> b.cardOf(6, 9));
        refused(PLACE, b -> b.gameOf(-1, -1));
        refused(PLACE, b -> b.whyNot(0, 3, 0));
        refused(PLACE, b -> b.missing(0, 4, 2));
        refused(PLACE, b -> b.fullAt(6, 2));
    }

    @Sentence("The constants: `NONE = -1`: There is nothing to return.")
    static void none() {
        Check.due("NONE", TombolaBooks.NONE, -1);
        TombolaBooks b = new TombolaBooks();
        b.draw(90);
        Check.due("no card", b.numberOf(1, 0), -1);
        Check.due("no row", b.numberOf(1, 1), -1);
        Check.due("no call", b.call(90, 0), -1);
        Check.due("no claim", b.ifClaimed(0, 0), -1);
        Check.due("nothing is missing", b.missing(0, 0, 0), -1);
        Check.due("never full", b.fullAt(0, 0), -1);
        Check.due("no card is full", b.firstFull(), -1);
        Check.due("no next ball", b.next(1), -1);
    }

    @Sentence("Ahead of the calls `at`, `cardOf`, `numberOf`, `call`, `gameOf`, `count`, `setting` the interface "
            + "says: ---- looks; nothing is changed.")
    static void looksChangeNothing() {
        TombolaBooks b = busy();
        b.at(0, 0, 0);
        for (int what = 0; what < 9; what++) {
            b.cardOf(0, what);
            b.cardOf(5, what);
        }
        for (int what = 0; what < 4; what++) {
            b.numberOf(1, what);
            b.numberOf(90, what);
            b.gameOf(0, what);
            b.gameOf(3, what);
        }
        for (int ago = 0; ago < 100; ago += 11) {
            b.call(ago, 0);
            b.call(ago, 1);
        }
        for (int what = 0; what < 15; what++) {
            b.count(what);
        }
        b.setting(0);
        b.setting(2);
        Probe.same("behind looks", b, busy());
    }

    @Sentence("Ahead of the calls `whyNot`, `ifClaimed`, `missing`, `fullAt`, `firstFull`, `next`, `drawnShare`, "
            + "`digest` the interface says: ---- what would be; nothing is changed.")
    static void whatWouldBeChangesNothing() {
        for (Supplier<TombolaBooks> maker : whatWouldBeMakers()) {
            TombolaBooks b = maker.get();
            for (int number = 1; number <= 90; number += 8) {
                b.whyNot(5, 0, number);
                b.next(number);
            }
            for (int game = 0; game < 4; game++) {
                b.ifClaimed(0, game);
                b.ifClaimed(2, game);
                b.missing(0, game, 0);
                b.missing(1, game, 1);
            }
            for (int card = 0; card < 6; card++) {
                b.fullAt(card, 0);
                b.fullAt(card, 1);
            }
            b.firstFull();
            b.drawnShare();
            b.digest();
            Probe.same("behind what would be", b, maker.get());
        }
    }

    private static List<Supplier<TombolaBooks>> whatWouldBeMakers() {
        return List.of(TermsExceptions::busy, () -> Play.rich().books, TombolaBooks::new);
    }
}
