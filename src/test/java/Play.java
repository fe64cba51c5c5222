import java.util.ArrayList;
import java.util.List;
import java.util.TreeSet;

/**
 * A book with what brings it into the states that tests ask for. It remembers by itself what was
 * drawn, for a book is only good for 512 calls.
 */
final class Play {
    static final int[][][] ROWS = {
        {{1, 12, 23, 34, 45}, {13, 24, 46, 57, 90}, {2, 14, 58, 69, 70}},
        {{3, 15, 25, 35, 47}, {16, 26, 48, 59, 80}, {5, 17, 61, 71, 89}},
        {{4, 18, 27, 36, 49}, {19, 28, 50, 62, 88}, {6, 29, 51, 63, 72}},
    };
    /** Six whole cards, by which all numbers stand in the book. */
    static final int[][][] FULL = rowsOfAllNumbers();

    final TombolaBooks books = new TombolaBooks();
    private final TreeSet<Integer> drum = new TreeSet<>();

    Play() {
        fillDrum();
    }

    /** The numbers by columns, from the last one, each to the row that has the fewest numbers. */
    private static int[][][] rowsOfAllNumbers() {
        List<TreeSet<Integer>> rows = new ArrayList<>();
        for (int row = 0; row < 18; row++) {
            rows.add(new TreeSet<>());
        }
        for (int column = 8; column >= 0; column--) {
            int first = Math.max(1, 10 * column);
            int last = column == 8 ? 90 : 10 * column + 9;
            List<TreeSet<Integer>> shortest = new ArrayList<>(rows);
            shortest.sort((a, b) -> a.size() - b.size());
            shortest = shortest.subList(0, last - first + 1);
            int number = first;
            // In the order of the rows, so that each column ascends.
            for (TreeSet<Integer> row : rows) {
                for (TreeSet<Integer> each : shortest) {
                    if (each == row) {
                        row.add(number);
                        number++;
                    }
                }
            }
        }
        int[][][] cards = new int[6][3][];
        for (int row = 0; row < 18; row++) {
            cards[row / 3][row % 3] = rows.get(row).stream().mapToInt(n -> n).toArray();
        }
        return cards;
    }

    private void fillDrum() {
        for (int number = 1; number <= 90; number++) {
            drum.add(number);
        }
    }

    /** Puts the numbers of ROWS into the cards 0 to many - 1, so that they are whole. */
    Play wholeCards(int many) {
        return put(ROWS, many);
    }

    /** Puts all numbers into the book. */
    Play fullBook() {
        return put(FULL, 6);
    }

    private Play put(int[][][] cards, int many) {
        for (int card = 0; card < many; card++) {
            for (int row = 0; row < 3; row++) {
                for (int number : cards[card][row]) {
                    Check.due("put of a layout", books.put(card, row, number), 0);
                }
            }
        }
        return this;
    }

    Play bought(int many) {
        return wholeCards(many).buy(many);
    }

    /** Buys the cards 0 to many - 1. */
    Play buy(int many) {
        for (int card = 0; card < many; card++) {
            books.buy(card);
        }
        return this;
    }

    Play set(int setting, int value) {
        books.set(setting, value);
        return this;
    }

    /** A lot behind which the next draw brings a certain rank of so many things. */
    static int lotFor(int rank, int of) {
        for (int x = 0; x < 10000; x++) {
            if ((x * 421 + 1663) % 10000 % of == rank) {
                return x;
            }
        }
        throw new AssertionError("no lot brings rank " + rank + " of " + of);
    }

    /** Draws these balls, one a call, by choice of the lots. */
    Play balls(int... numbers) {
        for (int number : numbers) {
            books.seed(lotFor(drum.headSet(number).size(), drum.size()));
            Check.due("the ball of a chosen lot", books.draw(1), number);
            drum.remove(number);
        }
        return this;
    }

    /** Draws these balls, each of which is a slip, and ends with a caller without slips. */
    Play slips(int... numbers) {
        set(1, 1);
        balls(numbers);
        return set(1, 0);
    }

    int end() {
        drum.clear();
        fillDrum();
        return books.end();
    }

    /** Puts a text in place of the buffer. */
    Play type(String text) {
        books.clearBuffer();
        for (char sign : text.toCharArray()) {
            books.append(sign);
        }
        return this;
    }

    /** Leaves one saved state, and the book in the slot 1, as it is now. */
    Play savedOnce() {
        books.keep(1);
        while (books.count(14) > 0) {
            books.undo();
        }
        books.goBack(1);
        return this;
    }

    /**
     * A book in its second evening: prizes were paid, games are won, claims were turned down, slips
     * were made, the cards 0 and 1 are bought, 2 is whole, 5 has the number 7; one state is saved,
     * and there is a snapshot in the slot 1.
     */
    static Play rich() {
        Play play = new Play().wholeCards(3);
        TombolaBooks b = play.books;
        b.put(5, 1, 7);
        play.set(0, 30).buy(2).balls(1, 12, 23, 34, 45);
        b.claim(0, 0);
        b.claim(1, 0);
        play.end();
        play.buy(2).set(1, 4).balls(3, 15, 25, 35, 47, 1, 12, 23, 34, 45, 46, 57);
        b.claim(1, 0);
        b.claim(0, 3);
        return play.savedOnce();
    }
}
