import java.util.TreeSet;

/**
 * A book with what brings it into the states that tests ask for. It remembers by itself what was
 * drawn, for a book is only good for 512 calls.
 */
final class Play {
    static final int[][][] ROWS = {
        {{1, 12, 23, 34, 45}, {13, 24, 46, 57, 90}, {2, 14, 58, 69, 70}},
        {{3, 15, 25, 35, 47}, {16, 26, 48, 59, 80}, {5, 17, 61, 71, 89}},
        {{4, 18, 27, 36, 49}, {19, 28, 50, 62, 88}, {6, 29, 51, 63, 72}},
    };

    final TombolaBooks books = new TombolaBooks();
    private final TreeSet<Integer> drum = new TreeSet<>();

    Play() {
        fillDrum();
    }

    private void fillDrum() {
        for (int number = 1; number <= 90; number++) {
            drum.add(number);
        }
    }

    /** Puts the numbers of ROWS into the cards 0 to many - 1, so that they are whole. */
    Play wholeCards(int many) {
        for (int card = 0; card < many; card++) {
            for (int row = 0; row < 3; row++) {
                for (int number : ROWS[card][row]) {
                    Check.due("put of a layout", books.put(card, row, number), 0);
                }
            }
        }
        return this;
    }

    Play bought(int many) {
        wholeCards(many);
        for (int card = 0; card < many; card++) {
            books.buy(card);
        }
        return this;
    }

    /** A lot behind which the next draw brings a certain rank of so many things. */
    static int lotFor(int rank, int of) {
        for (int x = 0; x < 10000; x++) {
            if ((x * 421 + 1663) % 10000 % of == rank) {
                return x;
            }
        }
        throw new AssertionError("no lot brings rank " + rank + " of " + of);
    }

    /** Draws these balls, one a call, by choice of the lots. */
    Play balls(int... numbers) {
        for (int number : numbers) {
            books.seed(lotFor(drum.headSet(number).size(), drum.size()));
            Check.due("the ball of a chosen lot", books.draw(1), number);
            drum.remove(number);
        }
        return this;
    }

    int end() {
        drum.clear();
        fillDrum();
        return books.end();
    }

    /** Puts a text in place of the buffer. */
    Play type(String text) {
        books.clearBuffer();
        for (char sign : text.toCharArray()) {
            books.append(sign);
        }
        return this;
    }
}
