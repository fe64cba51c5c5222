import java.util.function.Consumer;
import java.util.function.Supplier;

/** Promise 14. */
@Head("Promise 14: run")
final class Promise14Run {
    private Promise14Run() {
    }

    private static int run(TombolaBooks b, String text) {
        for (char sign : text.toCharArray()) {
            b.append(sign);
        }
        return b.run();
    }

    /** A text does the same as the calls, but that it saves one state: the one from before it. */
    private static void same(Supplier<TombolaBooks> maker, String text, Consumer<TombolaBooks> calls) {
        TombolaBooks called = maker.get();
        int saved = called.count(14);
        calls.accept(called);
        called.keep(0);
        while (called.count(14) > saved) {
            called.undo();
        }
        called.goBack(0);
        TombolaBooks run = maker.get();
        run(run, text);
        run.keep(0);
        Probe.same("run of " + text, run, called);
    }

    @Sentence("Does the orders in the buffer as put(), buy(), draw() and claim() do,")
    static void asTheMethodsDo() {
        same(TombolaBooks::new, "p0001p5290", b -> {
            b.put(0, 0, 1);
            b.put(5, 2, 90);
        });
        same(() -> new Play().wholeCards(2).savedOnce().books, "b0b1d9", b -> {
            b.buy(0);
            b.buy(1);
            b.draw(9);
        });
        same(() -> Play.rich().books, "c00d1p5208", b -> {
            b.claim(0, 0);
            b.draw(1);
            b.put(5, 2, 8);
        });
    }

    @Sentence("one after the other,")
    static void oneAfterTheOther() {
        Play play = new Play().wholeCards(1);
        Check.due("bought ahead of the ball", run(play.books, "b0d1"), 2);
        play.end();
        Check.due("the ball ahead of buying", run(play.books, "d1b0"), 1);
        TombolaBooks b = new TombolaBooks();
        Check.due("13, then 14 below it", run(b, "p0013p0114p0212"), 2);
        Check.due("13", b.at(0, 0, 1), 13);
        Check.due("14", b.at(0, 1, 1), 14);
        Check.due("12 cannot stand below them", b.at(0, 2, 1), 0);
    }

    @Sentence("up to the first one that is refused")
    static void upToARefusedPut() {
        for (String refused : new String[] {"p5001", "p0009"}) {
            TombolaBooks b = new TombolaBooks();
            Check.due("done ahead of " + refused, run(b, "p0001" + refused + "p5190d1"), 1);
            Check.due("nothing behind it", b.count(0) + b.count(8), 1);
        }
        Play play = new Play().wholeCards(1);
        Check.due("a full row", run(play.books, "p1155p0053d1"), 1);
        Check.due("a number below", run(play.books, "p1056d1"), 0);
        Check.due("no ball", play.books.count(8), 0);
    }

    @Sentence("or turned down,")
    static void upToAClaimThatIsTurnedDown() {
        Play play = new Play().bought(1).balls(1, 12, 23, 34, 45);
        Check.due("a claim that wins, one that does not", run(play.books, "c00c00d1"), 1);
        Check.due("no ball", play.books.count(8), 5);
        Check.due("neither drawn nor said", run(play.books, "c03d1"), 0);
        Check.due("won behind an earlier call", run(play.books, "d1c00d1"), 1);
        Check.due("one ball", play.books.count(8), 6);
    }

    @Sentence("or whose method would throw an exception,")
    static void upToAnException() {
        Play play = new Play().wholeCards(2);
        TombolaBooks b = play.books;
        Check.due("a card that is not whole", run(b, "b5d1"), 0);
        Check.due("a card that was bought", run(b, "b0b0d1"), 1);
        Check.due("a claim of a card that was not bought", run(b, "c10d1"), 0);
        Check.due("nothing is turned down", b.count(11), 0);
        Check.due("buying behind a ball", run(b, "d1b1d1"), 1);
        b.draw(80);
        Check.due("9 of 9 balls, and one of none", run(b, "d9d1p5001"), 1);
        b.undo();
        b.draw(1);
        Check.due("9 of 8 balls", run(b, "d9p5001"), 0);
        Check.due("8 are left", b.count(7), 8);
        Check.due("nothing is put", b.numberOf(1, 0), 0);
        Check.due("8 of 8 balls", run(b, "d8"), 1);
    }

    @Sentence("and clears the buffer.")
    static void theBufferIsCleared() {
        TombolaBooks b = new TombolaBooks();
        run(b, "d1d2");
        Check.due("behind all orders", b.clearBuffer(), 0);
        run(b, "b0d1d1");
        Check.due("behind one that is not done", b.clearBuffer(), 0);
        run(b, "d1".repeat(30));
        Check.due("behind the longest text", b.clearBuffer(), 0);
    }

    @Sentence("Undoable, as one call, also if none is done.")
    static void undoable() {
        Probe.undoable("some orders", () -> Play.rich().books, b -> Check.due("done", run(b, "d1d2d9p5208"), 4));
        Probe.undoable("the longest text", TombolaBooks::new, b -> Check.due("done", run(b, "d1".repeat(30)), 30));
        Probe.undoable("none is done", () -> Play.rich().books, b -> Check.due("done", run(b, "b0d1"), 0));
        Probe.undoable("turned down", () -> Play.rich().books, b -> Check.due("done", run(b, "c03"), 0));
    }

    @Sentence("Returns how many are done")
    static void returnsHowManyAreDone() {
        for (int orders = 1; orders <= 30; orders++) {
            Check.due("all of " + orders, run(new TombolaBooks(), "d3".repeat(orders)), orders);
        }
        Check.due("one of one", run(new TombolaBooks(), "p0001"), 1);
        Check.due("none of two", run(new TombolaBooks(), "b0d1"), 0);
        Check.due("10 of 30", run(new TombolaBooks(), "d9".repeat(30)), 10);
        TombolaBooks b = new TombolaBooks();
        b.draw(90);
        Check.due("11 of 12", run(b, "p0001p0011p0021p0031p0041p0102p0112p0122p0132p0142p0203p0003"), 11);
    }

    @Sentence("(the one that is refused or turned down is not, though it is counted as turned down).")
    static void whatIsTurnedDownIsCounted() {
        Play play = new Play().bought(2).balls(1, 12, 23, 34, 45);
        Check.due("two of four", run(play.books, "c00d1c11c00"), 2);
        Check.due("turned down", play.books.count(11), 1);
        Check.due("turned down of the card 1", play.books.cardOf(1, 8), 1);
        Check.due("turned down of the card 0", play.books.cardOf(0, 8), 0);
        Check.due("won", play.books.count(10), 1);
        run(play.books, "p0001");
        Check.due("a refused put is no claim", play.books.count(11), 1);
    }

    @Sentence("Throws `IllegalArgumentException` if the buffer does not tell an evening as a text")
    static void noEveningAsAText() {
        String[] texts = {"", "p", "p0", "p00", "p000", "p0000", "p0091", "p0301", "p6001", "b", "b6", "d", "d0",
            "c", "c0", "c04", "c60", "d1d", "d1x", "x", "d1p000", "d1".repeat(29) + "d", "d1".repeat(29) + "d0",
            "d".repeat(60)};
        for (String text : texts) {
            Bounds.thrown("run of " + text, Bounds.VALUE, new Play().type(text).books, TombolaBooks::run);
        }
        TombolaBooks b = new Play().type("d1d").books;
        Check.dueThrow("run", Bounds.VALUE, b::run);
        b.append('2');
        Check.due("run when it is whole", b.run(), 2);
        Check.due("balls", b.count(8), 3);
        Bounds.thrown("run of a buffer that was done", Bounds.VALUE, b, TombolaBooks::run);
    }
}
