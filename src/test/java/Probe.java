import java.util.ArrayList;
import java.util.List;
import java.util.function.Consumer;
import java.util.function.Supplier;

/** All that a book answers, by which two books are told apart. */
final class Probe {
    private Probe() {
    }

    /** What it answers now, behind each undo() and with each snapshot; the book is spent by it. */
    static List<Long> of(TombolaBooks b) {
        List<Long> told = new ArrayList<>();
        tell(b, told);
        while (b.count(14) > 0) {
            b.undo();
            tell(b, told);
        }
        for (int slot = 0; slot < 2; slot++) {
            try {
                b.goBack(slot);
                tell(b, told);
            } catch (IllegalStateException e) {
                told.add(-999L);
            }
        }
        return told;
    }

    /** The digest tells of all but the calls that are long ago. */
    private static void tell(TombolaBooks b, List<Long> told) {
        told.add(b.digest());
        for (int ago = 10; ago < Math.min(b.count(8), 22); ago++) {
            told.add((long) b.call(ago, 0));
            told.add((long) b.call(ago, 1));
        }
    }

    static void same(String what, TombolaBooks b, TombolaBooks due) {
        Check.record(of(b).equals(of(due)), what + ": the books are not the same");
    }

    /** A call that is undoable: it saves one state, and undo() brings all of it back. */
    static void undoable(String what, Supplier<TombolaBooks> maker, Consumer<TombolaBooks> call) {
        TombolaBooks b = maker.get();
        int saved = b.count(14);
        Check.record(saved < 6, what + ": no room for a state that is not dropped");
        call.accept(b);
        Check.due(what + ": saved states", b.count(14), saved + 1);
        Check.due(what + ": undo", b.undo(), saved);
        same("undo behind " + what, b, maker.get());
    }
}
