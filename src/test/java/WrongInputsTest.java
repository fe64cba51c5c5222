import java.util.function.Function;

/**
 * The exceptions of all promises: of several that apply the one that is named first, and a call
 * that throws one changes nothing.
 */
public final class WrongInputsTest {
    private static final Class<? extends RuntimeException> PLACE = IndexOutOfBoundsException.class;
    private static final Class<? extends RuntimeException> VALUE = IllegalArgumentException.class;
    private static final Class<? extends RuntimeException> STATE = IllegalStateException.class;
    private static final int[] FAR = {Integer.MIN_VALUE, -1, Integer.MAX_VALUE};

    public static void main(String[] args) {
        cards();
        texts();
        looks();
        farOff();
        Check.finish();
    }

    /** A book in an evening with whole, bought and empty cards, few balls and a full buffer. */
    private static TombolaBooks busy() {
        Play play = new Play().bought(2);
        play.balls(1, 12, 23, 34, 45);
        play.books.claim(0, 0);
        play.books.draw(80);
        play.books.keep(0);
        return play.type("d1".repeat(29) + "d1").books;
    }

    private static TombolaBooks fresh() {
        return new TombolaBooks();
    }

    private static void refused(String what, Class<? extends RuntimeException> want,
            Function<TombolaBooks, Object> call) {
        refusedBy("busy", busy(), what, want, call);
    }

    /** Also by a new book, where the arguments alone are wrong. */
    private static void refusedAlways(String what, Class<? extends RuntimeException> want,
            Function<TombolaBooks, Object> call) {
        refusedBy("busy", busy(), what, want, call);
        refusedBy("new", fresh(), what, want, call);
    }

    private static void refusedBy(String which, TombolaBooks b, String what,
            Class<? extends RuntimeException> want, Function<TombolaBooks, Object> call) {
        long before = b.digest();
        Check.dueThrow(which + ": " + what, want, () -> call.apply(b));
        Check.due(which + ": digest behind " + what, b.digest(), before);
    }

    private static void cards() {
        refusedAlways("put(6, 0, 1)", PLACE, b -> b.put(6, 0, 1));
        refusedAlways("put(0, 3, 1)", PLACE, b -> b.put(0, 3, 1));
        refusedAlways("put(6, 0, 0)", PLACE, b -> b.put(6, 0, 0));
        refusedAlways("put(0, 3, 91)", PLACE, b -> b.put(0, 3, 91));
        refusedAlways("put(0, 0, 0)", VALUE, b -> b.put(0, 0, 0));
        refusedAlways("put(0, 0, 91)", VALUE, b -> b.put(0, 0, 91));
        refusedAlways("take(0)", VALUE, b -> b.take(0));
        refusedAlways("take(91)", VALUE, b -> b.take(91));
        refused("take(1) of a bought card", STATE, b -> b.take(1));
        refusedAlways("take(11) of none", STATE, b -> b.take(11));
        refusedAlways("fill(6, 1)", PLACE, b -> b.fill(6, 1));
        refusedAlways("fill(6, 0)", PLACE, b -> b.fill(6, 0));
        refusedAlways("fill(0, 0)", VALUE, b -> b.fill(0, 0));
        refusedAlways("fill(0, 61)", VALUE, b -> b.fill(0, 61));
        refused("fill(0, 1) of a bought card", STATE, b -> b.fill(0, 1));
        refusedAlways("buy(6)", PLACE, b -> b.buy(6));
        refused("buy(0) again", STATE, b -> b.buy(0));
        refusedAlways("buy(5) of an empty card", STATE, b -> b.buy(5));
        refusedAlways("seed(10000)", VALUE, b -> b.seed(10000));
        refusedAlways("set(3, 0)", PLACE, b -> b.set(3, 0));
        refusedAlways("set(3, 100)", PLACE, b -> b.set(3, 100));
        refusedAlways("set(0, 0)", VALUE, b -> b.set(0, 0));
        refusedAlways("set(0, 100)", VALUE, b -> b.set(0, 100));
        refusedAlways("set(1, 100)", VALUE, b -> b.set(1, 100));
        refusedAlways("set(2, 2)", VALUE, b -> b.set(2, 2));
        refusedAlways("draw(0)", VALUE, b -> b.draw(0));
        refusedAlways("draw(91)", VALUE, b -> b.draw(91));
        refused("draw(6) of 5", STATE, b -> b.draw(6));
        refusedAlways("claim(6, 0)", PLACE, b -> b.claim(6, 0));
        refusedAlways("claim(0, 4)", PLACE, b -> b.claim(0, 4));
        refusedAlways("claim(5, 4)", PLACE, b -> b.claim(5, 4));
        refusedAlways("claim(5, 0)", STATE, b -> b.claim(5, 0));
    }

    private static void texts() {
        refusedAlways("append(32)", VALUE, b -> b.append(32));
        refusedAlways("append(127)", VALUE, b -> b.append(127));
        refused("append(100) to 60", STATE, b -> b.append(100));
        refusedBy("new", fresh(), "run of nothing", VALUE, TombolaBooks::run);
        refusedBy("typed", new Play().type("b0d").books, "run", VALUE, TombolaBooks::run);
        refusedAlways("keep(2)", VALUE, b -> b.keep(2));
        refusedAlways("goBack(2)", VALUE, b -> b.goBack(2));
        refusedAlways("goBack(1) of none", STATE, b -> b.goBack(1));
        refusedBy("new", fresh(), "undo of none", STATE, TombolaBooks::undo);
    }

    private static void looks() {
        refusedAlways("at(6, 0, 0)", PLACE, b -> b.at(6, 0, 0));
        refusedAlways("at(0, 3, 0)", PLACE, b -> b.at(0, 3, 0));
        refusedAlways("at(0, 0, 9)", PLACE, b -> b.at(0, 0, 9));
        refusedAlways("cardOf(6, 0)", PLACE, b -> b.cardOf(6, 0));
        refusedAlways("cardOf(6, 9)", PLACE, b -> b.cardOf(6, 9));
        refusedAlways("cardOf(0, 9)", VALUE, b -> b.cardOf(0, 9));
        refusedAlways("numberOf(0, 0)", VALUE, b -> b.numberOf(0, 0));
        refusedAlways("numberOf(91, 0)", VALUE, b -> b.numberOf(91, 0));
        refusedAlways("numberOf(1, 4)", VALUE, b -> b.numberOf(1, 4));
        refusedAlways("call(0, 2)", VALUE, b -> b.call(0, 2));
        refusedAlways("call(100, 2)", VALUE, b -> b.call(100, 2));
        refusedAlways("gameOf(4, 0)", PLACE, b -> b.gameOf(4, 0));
        refusedAlways("gameOf(4, 4)", PLACE, b -> b.gameOf(4, 4));
        refusedAlways("gameOf(0, 4)", VALUE, b -> b.gameOf(0, 4));
        refusedAlways("count(15)", VALUE, b -> b.count(15));
        refusedAlways("setting(3)", PLACE, b -> b.setting(3));
        refusedAlways("whyNot(6, 0, 1)", PLACE, b -> b.whyNot(6, 0, 1));
        refusedAlways("whyNot(0, 3, 0)", PLACE, b -> b.whyNot(0, 3, 0));
        refusedAlways("whyNot(0, 0, 0)", VALUE, b -> b.whyNot(0, 0, 0));
        refusedAlways("whyNot(0, 0, 91)", VALUE, b -> b.whyNot(0, 0, 91));
        refusedAlways("ifClaimed(6, 0)", PLACE, b -> b.ifClaimed(6, 0));
        refusedAlways("ifClaimed(0, 4)", PLACE, b -> b.ifClaimed(0, 4));
        refusedAlways("missing(6, 0, 0)", PLACE, b -> b.missing(6, 0, 0));
        refusedAlways("missing(0, 4, 2)", PLACE, b -> b.missing(0, 4, 2));
        refusedAlways("missing(0, 0, 2)", VALUE, b -> b.missing(0, 0, 2));
        refusedAlways("missing(5, 0, 2) of an empty card", VALUE, b -> b.missing(5, 0, 2));
        refusedAlways("fullAt(6, 0)", PLACE, b -> b.fullAt(6, 0));
        refusedAlways("fullAt(6, 2)", PLACE, b -> b.fullAt(6, 2));
        refusedAlways("fullAt(5, 2) of an empty card", VALUE, b -> b.fullAt(5, 2));
        refusedAlways("next(0)", VALUE, b -> b.next(0));
        refusedAlways("next(91)", VALUE, b -> b.next(91));
    }

    private static void farOff() {
        for (int far : FAR) {
            String what = " of " + far;
            refused("put, card" + what, PLACE, b -> b.put(far, 0, 1));
            refused("put, row" + what, PLACE, b -> b.put(0, far, 1));
            refused("put, number" + what, VALUE, b -> b.put(0, 0, far));
            refused("take" + what, VALUE, b -> b.take(far));
            refused("fill, card" + what, PLACE, b -> b.fill(far, 1));
            refused("fill, many" + what, VALUE, b -> b.fill(5, far));
            refused("buy" + what, PLACE, b -> b.buy(far));
            refused("seed" + what, VALUE, b -> b.seed(far));
            refused("set, setting" + what, PLACE, b -> b.set(far, 1));
            for (int setting = 0; setting < 3; setting++) {
                int which = setting;
                refused("set, value" + what, VALUE, b -> b.set(which, far));
            }
            refused("draw" + what, VALUE, b -> b.draw(far));
            refused("claim, card" + what, PLACE, b -> b.claim(far, 0));
            refused("claim, game" + what, PLACE, b -> b.claim(0, far));
            refused("append" + what, VALUE, b -> b.append(far));
            refused("keep" + what, VALUE, b -> b.keep(far));
            refused("goBack" + what, VALUE, b -> b.goBack(far));
            refused("at, card" + what, PLACE, b -> b.at(far, 0, 0));
            refused("at, row" + what, PLACE, b -> b.at(0, far, 0));
            refused("at, column" + what, PLACE, b -> b.at(0, 0, far));
            refused("cardOf, card" + what, PLACE, b -> b.cardOf(far, 0));
            refused("cardOf, what" + what, VALUE, b -> b.cardOf(0, far));
            refused("numberOf, number" + what, VALUE, b -> b.numberOf(far, 0));
            refused("numberOf, what" + what, VALUE, b -> b.numberOf(1, far));
            if (far < 0) {
                refused("call, ago" + what, VALUE, b -> b.call(far, 0));
            }
            refused("call, what" + what, VALUE, b -> b.call(0, far));
            refused("gameOf, game" + what, PLACE, b -> b.gameOf(far, 0));
            refused("gameOf, what" + what, VALUE, b -> b.gameOf(0, far));
            refused("count" + what, VALUE, b -> b.count(far));
            refused("setting" + what, PLACE, b -> b.setting(far));
            refused("whyNot, card" + what, PLACE, b -> b.whyNot(far, 0, 1));
            refused("whyNot, row" + what, PLACE, b -> b.whyNot(0, far, 1));
            refused("whyNot, number" + what, VALUE, b -> b.whyNot(0, 0, far));
            refused("ifClaimed, card" + what, PLACE, b -> b.ifClaimed(far, 0));
            refused("ifClaimed, game" + what, PLACE, b -> b.ifClaimed(0, far));
            refused("missing, card" + what, PLACE, b -> b.missing(far, 0, 0));
            refused("missing, game" + what, PLACE, b -> b.missing(0, far, 0));
            refused("missing, what" + what, VALUE, b -> b.missing(0, 0, far));
            refused("fullAt, card" + what, PLACE, b -> b.fullAt(far, 0));
            refused("fullAt, what" + what, VALUE, b -> b.fullAt(0, far));
            refused("next" + what, VALUE, b -> b.next(far));
        }
    }
}
