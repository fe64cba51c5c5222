import java.util.function.Supplier;

/** Promise 32. */
@Head("Promise 32: digest")
final class Promise32Digest {
    /** Worked out from the list by another program. */
    private static final long NEW_BOOK = -341284395593349095L;
    /** How many values the list has without a character in the buffer, and where its parts begin. */
    private static final int VALUES = 734;
    private static final int SETTINGS = 15;
    private static final int PLACES = 18;
    private static final int CARDS = 180;
    private static final int OF_A_CARD = 22;
    private static final int NUMBERS = 312;
    private static final int GAMES = 692;
    private static final int SLOTS = 731;

    private Promise32Digest() {
    }

    /** That a call changes just some values: of each its rank in the list, and by how much. */
    private static void changes(String what, TombolaBooks b, Runnable call, int... ranksAndAmounts) {
        saveSix(b);
        long due = b.digest();
        for (int i = 0; i < ranksAndAmounts.length; i += 2) {
            due += ranksAndAmounts[i + 1] * powerOf31(VALUES - 1 - ranksAndAmounts[i]);
        }
        call.run();
        Check.due("the digest behind " + what, b.digest(), due);
    }

    /** So that the next call that is saved does not change how many states are. */
    private static void saveSix(TombolaBooks b) {
        for (int i = 0; i < 6; i++) {
            b.set(0, b.setting(0));
        }
    }

    private static long powerOf31(int exponent) {
        long power = 1;
        for (int i = 0; i < exponent; i++) {
            power *= 31;
        }
        return power;
    }

    private static void list(String what, Supplier<TombolaBooks> maker, boolean hasSecond) {
        Check.due("the digest of " + what, maker.get().digest(), DigestList.hashOf(maker, false, hasSecond, ""));
    }

    @Sentence("Computes a hash of the whole state.")
    static void ofTheWholeState() {
        Check.due("the same state", Play.rich().books.digest(), Play.rich().books.digest());
        TombolaBooks b = Play.rich().books;
        long before = b.digest();
        Check.due("nothing is changed by it", b.digest(), before);
        b.seed(4711);
        Check.record(b.digest() != before, "another lot");
        b.undo();
        Check.due("behind undo", b.digest(), before);
    }

    @Sentence("The hash starts at 3307.")
    static void ofANewBook() {
        Check.due("a new book", new TombolaBooks().digest(), NEW_BOOK);
    }

    @Sentence("For each value v of the following list, in order, the hash becomes 31 * hash + v,")
    static void inOrder() {
        list("a new book", TombolaBooks::new, false);
        TombolaBooks b = new TombolaBooks();
        changes("an evening more", b, b::end, 12, 1);
        changes("a higher price", b, () -> b.set(0, 11), SETTINGS, 1);
        changes("a snapshot", b, () -> b.keep(1), SLOTS + 1, 1);
    }

    @Sentence("in long arithmetic with overflow.")
    static void withOverflow() {
        TombolaBooks b = new TombolaBooks();
        long hash = b.digest();
        for (int length = 1; length <= 60; length++) {
            long behindLength = (hash + length) * 31 + '~';
            for (int i = 1; i < length; i++) {
                behindLength = behindLength * 31 + '~';
            }
            b.append('~');
            Check.due("with " + length + " characters", b.digest(), behindLength);
        }
    }

    @Sentence("The values are: count(0) to count(14);")
    static void counts() {
        list("a rich book", () -> Play.rich().books, true);
        TombolaBooks saved = new TombolaBooks();
        long before = saved.digest();
        saved.seed(1);
        Check.due("with a saved state", saved.digest(), before + powerOf31(VALUES - 1 - 14));
        TombolaBooks b = new TombolaBooks();
        changes("an evening", b, b::end, 12, 1);
    }

    @Sentence("the settings 0 to 2;")
    static void settings() {
        TombolaBooks b = new TombolaBooks();
        changes("a price", b, () -> b.set(0, 99), SETTINGS, 89);
        changes("slips", b, () -> b.set(1, 98), SETTINGS + 1, 98);
        changes("the last ball", b, () -> b.set(2, 1), SETTINGS + 2, 1);
    }

    @Sentence("for each card, row and column what is at it;")
    static void places() {
        list("a full book", () -> new Play().fullBook().books, false);
        TombolaBooks b = new TombolaBooks();
        changes("90 in the last place", b, () -> b.put(5, 2, 90), 0, 1, PLACES + 161, 90,
                CARDS + 5 * OF_A_CARD, 1, NUMBERS + 89 * 4, 6, NUMBERS + 89 * 4 + 1, 3);
        changes("1 in the first place", b, () -> b.put(0, 0, 1), 0, 1, PLACES, 1, CARDS, 1, NUMBERS, 1,
                NUMBERS + 1, 1);
        changes("31 in a place", b, () -> b.put(1, 2, 31), 0, 1, PLACES + 5 * 9 + 3, 31, CARDS + OF_A_CARD, 1,
                NUMBERS + 30 * 4, 2, NUMBERS + 30 * 4 + 1, 3);
    }

    @Sentence("for each card its properties 0 to 8,")
    static void propertiesOfCards() {
        TombolaBooks b = Play.rich().books;
        changes("a claim that is turned down", b, () -> b.claim(0, 3), 11, 1, CARDS + 8, 1);
        changes("one of another card", b, () -> b.claim(1, 3), 11, 1, CARDS + OF_A_CARD + 8, 1);
    }

    @Sentence("for each game ifClaimed, and missing with 0 and with 1,")
    static void claimsOfCards() {
        TombolaBooks b = Play.rich().books;
        Check.due("it would win", b.ifClaimed(0, 0), 0);
        changes("a claim that wins", b, () -> b.claim(0, 0), 10, 1, CARDS + 6, 1, CARDS + 9, 2, GAMES, 1,
                GAMES + 3, -3);
        list("corners of which one is missing", () -> new Play().bought(2).balls(1, 2, 70).savedOnce().books, true);
        list("a card of which one is missing", () -> {
            Play play = new Play().bought(1);
            play.books.draw(play.books.fullAt(0, 0) - 1);
            return play.books;
        }, false);
    }

    @Sentence("and fullAt with 0;")
    static void fullAt() {
        list("whole cards", () -> new Play().wholeCards(3).books, false);
        list("whole cards in an evening", () -> new Play().wholeCards(3).balls(3, 90).books, false);
        list("whole cards behind all calls", () -> {
            TombolaBooks b = new Play().wholeCards(2).books;
            b.draw(90);
            return b;
        }, false);
    }

    @Sentence("for each number its properties 0 to 3;")
    static void propertiesOfNumbers() {
        list("slips", () -> new Play().slips(90, 44).balls(45, 1).books, false);
        list("all calls with slips", () -> {
            TombolaBooks b = new Play().set(1, 3).books;
            b.draw(90);
            return b;
        }, false);
    }

    @Sentence("for the calls 0 to 9 (ago) their numbers 0 and 1 (NONE where there is none);")
    static void calls() {
        for (int calls = 0; calls <= 12; calls++) {
            int many = calls;
            list(calls + " calls", () -> {
                TombolaBooks b = new Play().set(1, 2).books;
                if (many > 0) {
                    b.draw(many);
                }
                return b;
            }, false);
        }
    }

    @Sentence("for each game its properties 0 to 3;")
    static void propertiesOfGames() {
        list("games that are won", () -> {
            TombolaBooks b = new Play().wholeCards(3).set(0, 67).buy(3).books;
            b.draw(90);
            for (int game = 0; game < 4; game++) {
                b.claim(game % 3, game);
                b.claim(2, game);
            }
            return b;
        }, false);
    }

    @Sentence("whyNot of the number 45 for each card and row;")
    static void whyNotOf45() {
        list("45 in the book", () -> {
            TombolaBooks b = new TombolaBooks();
            b.put(3, 1, 45);
            return b;
        }, false);
        list("other reasons", () -> {
            TombolaBooks b = new TombolaBooks();
            b.put(0, 1, 44);
            b.put(1, 1, 46);
            for (int number = 1; number <= 31; number += 10) {
                b.put(5, 2, number);
            }
            b.put(5, 2, 51);
            return b;
        }, false);
    }

    @Sentence("firstFull;")
    static void firstFull() {
        for (int x = 0; x < 10000; x += 2500) {
            int lot = x;
            list("six whole cards", () -> {
                TombolaBooks b = new Play().fullBook().books;
                b.seed(lot);
                return b;
            }, false);
        }
    }

    @Sentence("next of 1 to 3;")
    static void nextOf1To3() {
        for (int left = 0; left <= 4; left++) {
            int balls = 90 - left;
            list(left + " balls left", () -> {
                TombolaBooks b = new TombolaBooks();
                b.draw(balls);
                return b;
            }, false);
        }
    }

    @Sentence("the bits of drawnShare (as Double.doubleToLongBits);")
    static void bitsOfDrawnShare() {
        for (int calls = 0; calls <= 90; calls += 9) {
            int balls = calls;
            list(calls + " of 90", () -> drawnOfAll(balls), false);
        }
        list("1 of 90", () -> drawnOfAll(1), false);
        list("89 of 90", () -> drawnOfAll(89), false);
    }

    private static TombolaBooks drawnOfAll(int balls) {
        TombolaBooks b = new Play().fullBook().books;
        if (balls > 0) {
            b.draw(balls);
        }
        return b;
    }

    @Sentence("for each slot 1 if it has a snapshot, otherwise 0;")
    static void slots() {
        TombolaBooks b = new TombolaBooks();
        changes("a snapshot in the slot 1", b, () -> b.keep(1), SLOTS + 1, 1);
        changes("one in the slot 0", b, () -> b.keep(0), SLOTS, 1);
        changes("one in place of it", b, () -> b.keep(0), SLOTS, 0);
    }

    @Sentence("the length of the buffer and each of its character codes.")
    static void theBuffer() {
        TombolaBooks b = Play.rich().books;
        long empty = b.digest();
        b.append(33);
        Check.due("one character", b.digest(), (empty + 1) * 31 + 33);
        b.append(126);
        Check.due("two characters", b.digest(), ((empty + 2) * 31 + 33) * 31 + 126);
        b.clearBuffer();
        Check.due("none", b.digest(), empty);
    }

    @Sentence("Returns the hash.")
    static void returnsTheHash() {
        Check.due("a full buffer", new Play().type("~".repeat(60)).books.digest(),
                DigestList.hashOf(() -> new Play().type("~".repeat(60)).books, false, false, "~".repeat(60)));
        list("a second evening", () -> {
            TombolaBooks b = Play.rich().books;
            b.end();
            b.buy(2);
            b.draw(5);
            return b;
        }, true);
    }
}
