import java.util.function.IntUnaryOperator;
import java.util.function.Supplier;
import java.util.function.ToLongFunction;

/** Ranges: each value in them is taken, and those outside of them are thrown at. */
final class Bounds {
    static final Class<? extends RuntimeException> PLACE = IndexOutOfBoundsException.class;
    static final Class<? extends RuntimeException> VALUE = IllegalArgumentException.class;
    static final Class<? extends RuntimeException> STATE = IllegalStateException.class;

    interface Call {
        int of(TombolaBooks b, int x);
    }

    private Bounds() {
    }

    /** What is due with each value from the least to the greatest, each on a book of its own. */
    static void inside(int least, int greatest, Supplier<TombolaBooks> maker, Call call, IntUnaryOperator due) {
        for (int x = least; x <= greatest; x++) {
            Check.due("with " + x, call.of(maker.get(), x), due.applyAsInt(x));
        }
    }

    /** The values next to a range, and those farthest from it. */
    static void outside(int least, int greatest, Class<? extends RuntimeException> want,
            Supplier<TombolaBooks> maker, Call call) {
        TombolaBooks b = maker.get();
        for (int x : new int[] {Integer.MIN_VALUE, least - 1, greatest + 1, Integer.MAX_VALUE}) {
            thrown("with " + x, want, b, each -> call.of(each, x));
        }
    }

    /** A call that throws this, and changes nothing. */
    static void thrown(String what, Class<? extends RuntimeException> want, TombolaBooks b,
            ToLongFunction<TombolaBooks> call) {
        long before = b.digest();
        Check.dueThrow(what, want, () -> call.applyAsLong(b));
        Check.due("digest behind the exception, " + what, b.digest(), before);
    }
}
