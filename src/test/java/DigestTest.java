import java.util.function.Supplier;

/** Promise 32: digest is what its list tells, look by look. */
public final class DigestTest {
    public static void main(String[] args) {
        due("of a new book", TombolaBooks::new, false, false, "");
        due("of whole cards", () -> new Play().wholeCards(3).books, false, false, "");
        due("of an evening", () -> evening(false), false, true, "d1p!~");
        due("of a second evening", () -> evening(true), true, true, "d1p!~");
        due("of a full buffer", () -> new Play().type("~".repeat(60)).books, false, false, "~".repeat(60));
        due("of one snapshot", () -> {
            TombolaBooks b = new TombolaBooks();
            b.keep(0);
            return b;
        }, true, false, "");
        shares();
        Check.finish();
    }

    private static TombolaBooks evening(boolean hasEnded) {
        Play play = new Play().wholeCards(2);
        TombolaBooks b = play.books;
        b.buy(0);
        b.set(1, 4);
        b.keep(1);
        play.balls(1, 12, 23, 34, 45, 3, 15, 25, 35, 47, 90);
        b.claim(0, 0);
        b.claim(0, 3);
        play.type("d1p!~");
        if (hasEnded) {
            b.keep(0);
            play.end();
            b.take(25);
            b.undo();
            b.buy(1);
            play.balls(5);
        }
        return b;
    }

    private static void shares() {
        for (int all = 1; all <= 15; all++) {
            for (int drawn = 0; drawn <= all; drawn++) {
                int ofAll = all;
                int ofDrawn = drawn;
                due("of a share " + drawn + "/" + all, () -> share(ofDrawn, ofAll), false, false, "");
            }
        }
    }

    private static TombolaBooks share(int drawn, int all) {
        Play play = new Play();
        for (int i = 0; i < all; i++) {
            play.books.put(0, i / 5, Play.ROWS[0][i / 5][i % 5]);
        }
        for (int i = 0; i < drawn; i++) {
            play.balls(Play.ROWS[0][i / 5][i % 5]);
        }
        return play.books;
    }

    private static void due(String what, Supplier<TombolaBooks> maker, boolean hasFirst, boolean hasSecond,
            String buffer) {
        long hash = DigestList.hashOf(maker, hasFirst, hasSecond, buffer);
        TombolaBooks b = maker.get();
        Check.due("digest " + what, b.digest(), hash);
        Check.due("digest again " + what, b.digest(), hash);
    }
}
