import java.util.function.Supplier;

/** Promise 32: digest is what its list tells, look by look. */
public final class DigestTest {
    /** Makes the same book again and again: one is only good for 512 calls, the list is longer. */
    private final Supplier<TombolaBooks> maker;
    private TombolaBooks book;
    private int looks;
    private long hash = 3307;

    private DigestTest(Supplier<TombolaBooks> maker) {
        this.maker = maker;
        book = maker.get();
    }

    public static void main(String[] args) {
        due("of a new book", TombolaBooks::new, false, false, "");
        due("of whole cards", () -> new Play().wholeCards(3).books, false, false, "");
        due("of an evening", () -> evening(false), false, true, "d1p!~");
        due("of a second evening", () -> evening(true), true, true, "d1p!~");
        due("of a full buffer", () -> new Play().type("~".repeat(60)).books, false, false, "~".repeat(60));
        due("of one snapshot", () -> {
            TombolaBooks b = new TombolaBooks();
            b.keep(0);
            return b;
        }, true, false, "");
        shares();
        Check.finish();
    }

    private static TombolaBooks evening(boolean hasEnded) {
        Play play = new Play().wholeCards(2);
        TombolaBooks b = play.books;
        b.buy(0);
        b.set(1, 4);
        b.keep(1);
        play.balls(1, 12, 23, 34, 45, 3, 15, 25, 35, 47, 90);
        b.claim(0, 0);
        b.claim(0, 3);
        play.type("d1p!~");
        if (hasEnded) {
            b.keep(0);
            play.end();
            b.take(25);
            b.undo();
            b.buy(1);
            play.balls(5);
        }
        return b;
    }

    private static void shares() {
        for (int all = 1; all <= 15; all++) {
            for (int drawn = 0; drawn <= all; drawn++) {
                int ofAll = all;
                int ofDrawn = drawn;
                due("of a share " + drawn + "/" + all, () -> share(ofDrawn, ofAll), false, false, "");
            }
        }
    }

    private static TombolaBooks share(int drawn, int all) {
        Play play = new Play();
        for (int i = 0; i < all; i++) {
            play.books.put(0, i / 5, Play.ROWS[0][i / 5][i % 5]);
        }
        for (int i = 0; i < drawn; i++) {
            play.balls(Play.ROWS[0][i / 5][i % 5]);
        }
        return play.books;
    }

    private static void due(String what, Supplier<TombolaBooks> maker, boolean hasFirst, boolean hasSecond,
            String buffer) {
        DigestTest list = new DigestTest(maker);
        list.addCounts();
        list.addCards();
        list.addNumbers();
        list.addGamesAndRows();
        list.value(list.look().firstFull());
        for (int ahead = 1; ahead <= 3; ahead++) {
            list.value(list.look().next(ahead));
        }
        list.value(Double.doubleToLongBits(list.look().drawnShare()));
        list.value(hasFirst ? 1 : 0);
        list.value(hasSecond ? 1 : 0);
        list.value(buffer.length());
        for (char sign : buffer.toCharArray()) {
            list.value(sign);
        }
        TombolaBooks b = maker.get();
        Check.due("digest " + what, b.digest(), list.hash);
        Check.due("digest again " + what, b.digest(), list.hash);
    }

    private TombolaBooks look() {
        looks++;
        if (looks % 200 == 0) {
            book = maker.get();
        }
        return book;
    }

    private void value(long v) {
        hash = 31 * hash + v;
    }

    private void addCounts() {
        for (int what = 0; what <= 14; what++) {
            value(look().count(what));
        }
        for (int setting = 0; setting <= 2; setting++) {
            value(look().setting(setting));
        }
    }

    private void addCards() {
        for (int card = 0; card < 6; card++) {
            for (int row = 0; row < 3; row++) {
                for (int column = 0; column < 9; column++) {
                    value(look().at(card, row, column));
                }
            }
        }
        for (int card = 0; card < 6; card++) {
            for (int what = 0; what <= 8; what++) {
                value(look().cardOf(card, what));
            }
            for (int game = 0; game < 4; game++) {
                value(look().ifClaimed(card, game));
                value(look().missing(card, game, 0));
                value(look().missing(card, game, 1));
            }
            value(look().fullAt(card, 0));
        }
    }

    private void addNumbers() {
        for (int number = 1; number <= 90; number++) {
            for (int what = 0; what <= 3; what++) {
                value(look().numberOf(number, what));
            }
        }
        for (int ago = 0; ago <= 9; ago++) {
            value(look().call(ago, 0));
            value(look().call(ago, 1));
        }
    }

    private void addGamesAndRows() {
        for (int game = 0; game < 4; game++) {
            for (int what = 0; what <= 3; what++) {
                value(look().gameOf(game, what));
            }
        }
        for (int card = 0; card < 6; card++) {
            for (int row = 0; row < 3; row++) {
                value(look().whyNot(card, row, 45));
            }
        }
    }
}
