import java.util.function.Supplier;

/** The list of values of a digest, look by look. */
final class DigestList {
    /** Makes the same book again and again: one is only good for 512 calls, the list is longer. */
    private final Supplier<TombolaBooks> maker;
    private TombolaBooks book;
    private int looks;
    private long hash = 3307;

    private DigestList(Supplier<TombolaBooks> maker) {
        this.maker = maker;
        book = maker.get();
    }

    /** The digest that is due of a book with these snapshots and this buffer. */
    static long hashOf(Supplier<TombolaBooks> maker, boolean hasFirst, boolean hasSecond, String buffer) {
        DigestList list = new DigestList(maker);
        list.addCounts();
        list.addCards();
        list.addNumbers();
        list.addGamesAndRows();
        list.value(list.look().firstFull());
        for (int ahead = 1; ahead <= 3; ahead++) {
            list.value(list.look().next(ahead));
        }
        list.value(Double.doubleToLongBits(list.look().drawnShare()));
        list.value(hasFirst ? 1 : 0);
        list.value(hasSecond ? 1 : 0);
        list.value(buffer.length());
        for (char sign : buffer.toCharArray()) {
            list.value(sign);
        }
        return list.hash;
    }

    private TombolaBooks look() {
        looks++;
        if (looks % 200 == 0) {
            book = maker.get();
        }
        return book;
    }

    private void value(long v) {
        hash = 31 * hash + v;
    }

    private void addCounts() {
        for (int what = 0; what <= 14; what++) {
            value(look().count(what));
        }
        for (int setting = 0; setting <= 2; setting++) {
            value(look().setting(setting));
        }
    }

    private void addCards() {
        for (int card = 0; card < 6; card++) {
            for (int row = 0; row < 3; row++) {
                for (int column = 0; column < 9; column++) {
                    value(look().at(card, row, column));
                }
            }
        }
        for (int card = 0; card < 6; card++) {
            for (int what = 0; what <= 8; what++) {
                value(look().cardOf(card, what));
            }
            for (int game = 0; game < 4; game++) {
                value(look().ifClaimed(card, game));
                value(look().missing(card, game, 0));
                value(look().missing(card, game, 1));
            }
            value(look().fullAt(card, 0));
        }
    }

    private void addNumbers() {
        for (int number = 1; number <= 90; number++) {
            for (int what = 0; what <= 3; what++) {
                value(look().numberOf(number, what));
            }
        }
        for (int ago = 0; ago <= 9; ago++) {
            value(look().call(ago, 0));
            value(look().call(ago, 1));
        }
    }

    private void addGamesAndRows() {
        for (int game = 0; game < 4; game++) {
            for (int what = 0; what <= 3; what++) {
                value(look().gameOf(game, what));
            }
        }
        for (int card = 0; card < 6; card++) {
            for (int row = 0; row < 3; row++) {
                value(look().whyNot(card, row, 45));
            }
        }
    }
}
