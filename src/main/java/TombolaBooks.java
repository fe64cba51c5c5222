import java.util.Arrays;

/**
 * Tombola books: cards that are filled by hand or by lot, evenings with a drum, a caller, claims
 * and prizes, evenings as texts, snapshots and undo. The document of the class says what each
 * method promises; the comments here only say why something is done as it is done.
 *
 * <p>Inside, a row is told by one number: 3 times its card, and its rank in the card.
 */
public final class TombolaBooks {
    public static final int NONE = -1;

    private static final int CARDS = 6;
    private static final int ROWS = 3;
    private static final int COLUMNS = 9;
    private static final int NUMBERS = 90;
    private static final int ROW_SIZE = 5;
    private static final int CARD_SIZE = 15;

    private static final int GAMES = 4;
    private static final int LINE = 0;
    private static final int CORNERS = 1;
    private static final int TWO_LINES = 2;

    private static final int SETTINGS = 3;
    private static final int PRICE = 0;
    private static final int SLIPS = 1;
    private static final int LAST_BALL = 2;

    private static final int LOTS = 10000;
    private static final int MOST_LOTS_OF_A_FILL = 60;
    private static final int SLOTS = 2;
    private static final int MOST_SAVED = 6;
    private static final int MOST_CODES = 60;

    private static final int CARD_PROPERTIES = 9;
    private static final int NUMBER_PROPERTIES = 4;
    private static final int GAME_PROPERTIES = 4;
    private static final int COUNTS = 15;

    private static final int[] FIRST_VALUES = {10, 0, 0};
    private static final int[] LEAST_VALUES = {1, 0, 0};
    private static final int[] GREATEST_VALUES = {99, 99, 1};
    private static final int[] HUNDREDTHS = {10, 10, 20, 40};

    private final Book book = new Book();
    private final Book[] slots = new Book[SLOTS];
    private final boolean[] kept = new boolean[SLOTS];
    private final Book[] saved = new Book[MOST_SAVED];
    private int oldest;
    private int savedCount;
    private final Text text = new Text();
    // What would be drawn is told on these, so that the book itself stays as it is.
    private final Drum trial = new Drum();
    private final int[] order = new int[NUMBERS];

    public TombolaBooks() {
        for (int i = 0; i < SLOTS; i++) {
            slots[i] = new Book();
        }
        for (int i = 0; i < MOST_SAVED; i++) {
            saved[i] = new Book();
        }
    }

    // ---- cards

    public int put(int card, int row, int number)
            throws IndexOutOfBoundsException, IllegalArgumentException {
        needPlace(isCard(card) && isRow(row));
        needValue(isNumber(number));
        save();
        return book.place(card * ROWS + row, number);
    }

    public int take(int number) throws IllegalArgumentException, IllegalStateException {
        needValue(isNumber(number));
        int row = book.cards.rowOf[number];
        needState(row != NONE && !book.evening.isBought(row / ROWS));
        save();
        book.cards.lift(number);
        return 10 * (row / ROWS) + row % ROWS;
    }

    public int fill(int card, int many)
            throws IndexOutOfBoundsException, IllegalArgumentException, IllegalStateException {
        needPlace(isCard(card));
        needValue(many >= 1 && many <= MOST_LOTS_OF_A_FILL);
        needState(!book.evening.isBought(card));
        save();
        return book.placeByLot(card, many, trial);
    }

    public int buy(int card) throws IndexOutOfBoundsException, IllegalStateException {
        needPlace(isCard(card));
        needState(book.isForSale(card));
        save();
        return book.sell(card);
    }

    public int seed(int x) throws IllegalArgumentException {
        needValue(x >= 0 && x < LOTS);
        save();
        int before = book.lot;
        book.lot = x;
        return before;
    }

    public int set(int setting, int value)
            throws IndexOutOfBoundsException, IllegalArgumentException {
        needPlace(isSetting(setting));
        needValue(value >= LEAST_VALUES[setting] && value <= GREATEST_VALUES[setting]);
        save();
        int before = book.settings[setting];
        book.settings[setting] = value;
        return before;
    }

    // ---- the evening

    public int draw(int balls) throws IllegalArgumentException, IllegalStateException {
        needValue(balls >= 1 && balls <= NUMBERS);
        needState(balls <= book.evening.drum.size);
        save();
        return book.drawBalls(balls);
    }

    public int claim(int card, int game) throws IndexOutOfBoundsException, IllegalStateException {
        needPlace(isCard(card) && isGame(game));
        needState(book.evening.isBought(card));
        save();
        return book.settleClaim(card, game);
    }

    public int end() {
        save();
        return book.payAndBeginAnew();
    }

    // ---- texts, snapshots

    public int append(int code) throws IllegalArgumentException, IllegalStateException {
        needValue(code >= 33 && code <= 126);
        needState(text.length < MOST_CODES);
        text.codes[text.length] = code;
        text.length++;
        return text.length;
    }

    public int clearBuffer() {
        int before = text.length;
        text.length = 0;
        return before;
    }

    public int firstError() {
        return text.firstWrong();
    }

    public int run() throws IllegalArgumentException {
        needValue(text.tellsEvening());
        save();
        int done = 0;
        int start = 0;
        // No order is without a character, so there are no more orders than characters.
        for (int turn = 0; turn < MOST_CODES && start < text.length; turn++) {
            if (!doOrder(start)) {
                break;
            }
            start += Text.orderLength(text.codeAt(start));
            done++;
        }
        text.length = 0;
        return done;
    }

    public int keep(int slot) throws IllegalArgumentException {
        needValue(isSlot(slot));
        slots[slot].copyFrom(book);
        kept[slot] = true;
        return book.cards.size;
    }

    public int goBack(int slot) throws IllegalArgumentException, IllegalStateException {
        needValue(isSlot(slot));
        needState(kept[slot]);
        save();
        book.copyFrom(slots[slot]);
        return book.cards.size;
    }

    public int undo() throws IllegalStateException {
        needState(savedCount > 0);
        savedCount--;
        book.copyFrom(saved[(oldest + savedCount) % MOST_SAVED]);
        return savedCount;
    }

    // ---- looks; nothing is changed

    public int at(int card, int row, int column) throws IndexOutOfBoundsException {
        needPlace(isCard(card) && isRow(row) && column >= 0 && column < COLUMNS);
        return book.cards.numberIn(card * ROWS + row, column);
    }

    public int cardOf(int card, int what)
            throws IndexOutOfBoundsException, IllegalArgumentException {
        needPlace(isCard(card));
        needValue(what >= 0 && what < CARD_PROPERTIES);
        Cards cards = book.cards;
        Evening evening = book.evening;
        switch (what) {
            case 0:
                return cards.cardSize(card);
            case 1:
                return cards.isWhole(card) ? 1 : 0;
            case 2:
                return evening.isBought(card) ? 1 : 0;
            case 3:
                return cards.markedInCard(card, evening.drawnAt);
            case 4:
                return cards.markedInCard(card, evening.saidTimes);
            case 5:
                return cards.linesOf(card, evening.drawnAt);
            case 6:
                return evening.gamesWonBy(card);
            case 7:
                return book.tally.coinsOf[card];
            default:
                return book.tally.turnedDownOf[card];
        }
    }

    public int numberOf(int number, int what) throws IllegalArgumentException {
        needValue(isNumber(number) && what >= 0 && what < NUMBER_PROPERTIES);
        if (what == 2) {
            return book.evening.drawnAt[number];
        }
        if (what == 3) {
            return book.evening.saidTimes[number];
        }
        int row = book.cards.rowOf[number];
        if (row == NONE) {
            return NONE;
        }
        return what == 0 ? row / ROWS : row % ROWS;
    }

    public int call(int ago, int what) throws IllegalArgumentException {
        needValue(ago >= 0 && (what == 0 || what == 1));
        Evening evening = book.evening;
        if (ago >= evening.calls) {
            return NONE;
        }
        int index = evening.calls - 1 - ago;
        return what == 0 ? evening.drawn[index] : evening.said[index];
    }

    public int gameOf(int game, int what)
            throws IndexOutOfBoundsException, IllegalArgumentException {
        needPlace(isGame(game));
        needValue(what >= 0 && what < GAME_PROPERTIES);
        switch (what) {
            case 0:
                return book.evening.winners[game];
            case 1:
                return book.evening.wonAt[game];
            case 2:
                return book.prizeForEach(game) * Integer.bitCount(book.evening.winners[game]);
            default:
                return book.prizeForEach(game);
        }
    }

    public int count(int what) throws IllegalArgumentException {
        needValue(what >= 0 && what < COUNTS);
        switch (what) {
            case 0:
                return book.cards.size;
            case 1:
                return book.cards.wholeCards();
            case 2:
                return Integer.bitCount(book.evening.bought);
            case 7:
                return book.evening.drum.size;
            case 8:
                return book.evening.calls;
            case 9:
                return book.evening.slips;
            case 13:
                return book.lot;
            case 14:
                return savedCount;
            default:
                return book.tally.told(what);
        }
    }

    public int setting(int setting) throws IndexOutOfBoundsException {
        needPlace(isSetting(setting));
        return book.settings[setting];
    }

    // ---- what would be; nothing is changed

    public int whyNot(int card, int row, int number)
            throws IndexOutOfBoundsException, IllegalArgumentException {
        needPlace(isCard(card) && isRow(row));
        needValue(isNumber(number));
        return book.reasonAgainstPlace(card * ROWS + row, number);
    }

    public int ifClaimed(int card, int game) throws IndexOutOfBoundsException {
        needPlace(isCard(card) && isGame(game));
        return book.evening.isBought(card) ? book.reasonAgainstClaim(card, game) : NONE;
    }

    public int missing(int card, int game, int what)
            throws IndexOutOfBoundsException, IllegalArgumentException {
        needPlace(isCard(card) && isGame(game));
        needValue(what == 0 || what == 1);
        Cards cards = book.cards;
        if (!cards.isWhole(card)) {
            return NONE;
        }
        int many = cards.unmarkedOfGame(card, game, book.evening.drawnAt);
        if (what == 0) {
            return many;
        }
        return many == 1 ? cards.onlyUnmarked(card, game, book.evening.drawnAt) : NONE;
    }

    public int fullAt(int card, int what)
            throws IndexOutOfBoundsException, IllegalArgumentException {
        needPlace(isCard(card));
        needValue(what == 0 || what == 1);
        if (!book.cards.isWhole(card)) {
            return NONE;
        }
        if (what == 0) {
            return fullBallByBall(card);
        }
        layOrder();
        return lastCallInOrder(card);
    }

    public int firstFull() {
        layOrder();
        int first = NONE;
        int least = NUMBERS + 1;
        for (int card = 0; card < CARDS; card++) {
            int last = book.cards.isWhole(card) ? lastCallInOrder(card) : NONE;
            if (last != NONE && last < least) {
                least = last;
                first = card;
            }
        }
        return first;
    }

    public int next(int ahead) throws IllegalArgumentException {
        needValue(ahead >= 1 && ahead <= NUMBERS);
        if (ahead > book.evening.drum.size) {
            return NONE;
        }
        trial.copyFrom(book.evening.drum);
        int x = book.lot;
        int number = NONE;
        for (int i = 0; i < ahead; i++) {
            x = lotAfter(x);
            number = trial.takeOut(x);
        }
        return number;
    }

    public double drawnShare() {
        int all = book.cards.size;
        if (all == 0) {
            return 0.0;
        }
        int drawn = 0;
        for (int card = 0; card < CARDS; card++) {
            drawn += book.cards.markedInCard(card, book.evening.drawnAt);
        }
        return (double) drawn / (double) all;
    }

    public long digest() {
        long hash = 3307;
        for (int what = 0; what < COUNTS; what++) {
            hash = 31 * hash + count(what);
        }
        for (int setting = 0; setting < SETTINGS; setting++) {
            hash = 31 * hash + book.settings[setting];
        }
        hash = withPlaces(hash);
        for (int card = 0; card < CARDS; card++) {
            hash = withCard(hash, card);
        }
        hash = withNumbersAndCalls(hash);
        hash = withGamesAndRows(hash);
        hash = 31 * hash + firstFull();
        for (int ahead = 1; ahead <= 3; ahead++) {
            hash = 31 * hash + next(ahead);
        }
        hash = 31 * hash + bitsOfShare(drawnShare());
        return withSlotsAndBuffer(hash);
    }

    // ---- parts of the digest

    private long withPlaces(long before) {
        long hash = before;
        for (int row = 0; row < CARDS * ROWS; row++) {
            for (int column = 0; column < COLUMNS; column++) {
                hash = 31 * hash + book.cards.numberIn(row, column);
            }
        }
        return hash;
    }

    private long withCard(long before, int card) {
        long hash = before;
        for (int what = 0; what < CARD_PROPERTIES; what++) {
            hash = 31 * hash + cardOf(card, what);
        }
        for (int game = 0; game < GAMES; game++) {
            hash = 31 * hash + ifClaimed(card, game);
            hash = 31 * hash + missing(card, game, 0);
            hash = 31 * hash + missing(card, game, 1);
        }
        return 31 * hash + fullAt(card, 0);
    }

    private long withNumbersAndCalls(long before) {
        long hash = before;
        for (int number = 1; number <= NUMBERS; number++) {
            for (int what = 0; what < NUMBER_PROPERTIES; what++) {
                hash = 31 * hash + numberOf(number, what);
            }
        }
        for (int ago = 0; ago < 10; ago++) {
            hash = 31 * hash + call(ago, 0);
            hash = 31 * hash + call(ago, 1);
        }
        return hash;
    }

    private long withGamesAndRows(long before) {
        long hash = before;
        for (int game = 0; game < GAMES; game++) {
            for (int what = 0; what < GAME_PROPERTIES; what++) {
                hash = 31 * hash + gameOf(game, what);
            }
        }
        for (int row = 0; row < CARDS * ROWS; row++) {
            hash = 31 * hash + book.reasonAgainstPlace(row, 45);
        }
        return hash;
    }

    private long withSlotsAndBuffer(long before) {
        long hash = before;
        for (int slot = 0; slot < SLOTS; slot++) {
            hash = 31 * hash + (kept[slot] ? 1 : 0);
        }
        hash = 31 * hash + text.length;
        for (int i = 0; i < text.length; i++) {
            hash = 31 * hash + text.codeAt(i);
        }
        return hash;
    }

    /** The bits of a share from 0 to 1, by arithmetic: the language rules leave no Double. */
    private static long bitsOfShare(double share) {
        if (share <= 0.0) {
            return 0L;
        }
        double scaled = share;
        long exponent = 1023;
        // Doubling is exact; the least share is 1 of 90, so that some seven doublings do.
        for (int i = 0; i < 64 && scaled < 1.0; i++) {
            scaled = scaled * 2.0;
            exponent--;
        }
        return (exponent << 52) + (long) ((scaled - 1.0) * (double) (1L << 52));
    }

    // ---- what the face needs

    private static void needPlace(boolean isThere) throws IndexOutOfBoundsException {
        if (!isThere) {
            throw new IndexOutOfBoundsException("there is no such place, card, game or setting");
        }
    }

    private static void needValue(boolean isRight) throws IllegalArgumentException {
        if (!isRight) {
            throw new IllegalArgumentException("a value is out of range");
        }
    }

    private static void needState(boolean isSo) throws IllegalStateException {
        if (!isSo) {
            throw new IllegalStateException("this cannot be done now");
        }
    }

    private static boolean isCard(int card) {
        return card >= 0 && card < CARDS;
    }

    private static boolean isRow(int row) {
        return row >= 0 && row < ROWS;
    }

    private static boolean isNumber(int number) {
        return number >= 1 && number <= NUMBERS;
    }

    private static boolean isGame(int game) {
        return game >= 0 && game < GAMES;
    }

    private static boolean isSetting(int setting) {
        return setting >= 0 && setting < SETTINGS;
    }

    private static boolean isSlot(int slot) {
        return slot >= 0 && slot < SLOTS;
    }

    private static int lotAfter(int x) {
        return (x * 421 + 1663) % LOTS;
    }

    private void save() {
        if (savedCount == MOST_SAVED) {
            oldest = (oldest + 1) % MOST_SAVED;
            savedCount--;
        }
        saved[(oldest + savedCount) % MOST_SAVED].copyFrom(book);
        savedCount++;
    }

    /** Does the order that begins there in the buffer; false if it is not done. */
    private boolean doOrder(int start) {
        int first = text.digitAt(start + 1);
        switch (text.codeAt(start)) {
            case 'p':
                int row = first * ROWS + text.digitAt(start + 2);
                int number = 10 * text.digitAt(start + 3) + text.digitAt(start + 4);
                return book.place(row, number) == 0;
            case 'b':
                if (!book.isForSale(first)) {
                    return false;
                }
                book.sell(first);
                return true;
            case 'd':
                if (first > book.evening.drum.size) {
                    return false;
                }
                book.drawBalls(first);
                return true;
            default:
                return book.evening.isBought(first)
                        && book.settleClaim(first, text.digitAt(start + 2)) == 0;
        }
    }

    private int fullBallByBall(int card) {
        Evening evening = book.evening;
        trial.copyFrom(evening.drum);
        int x = book.lot;
        int found = 0;
        for (int call = 1; call <= NUMBERS; call++) {
            int number;
            if (call <= evening.calls) {
                number = evening.drawn[call - 1];
            } else {
                x = lotAfter(x);
                number = trial.takeOut(x);
            }
            if (book.cards.standsIn(card, number)) {
                found++;
            }
            if (found == CARD_SIZE) {
                return call;
            }
        }
        return NONE;
    }

    /** Lays out all balls, by the calls at which they were or would be drawn. */
    private void layOrder() {
        Evening evening = book.evening;
        System.arraycopy(evening.drawn, 0, order, 0, evening.calls);
        trial.copyFrom(evening.drum);
        int x = book.lot;
        for (int index = evening.calls; index < NUMBERS; index++) {
            x = lotAfter(x);
            order[index] = trial.takeOut(x);
        }
    }

    private int lastCallInOrder(int card) {
        int last = NONE;
        for (int index = 0; index < NUMBERS; index++) {
            if (book.cards.standsIn(card, order[index])) {
                last = index + 1;
            }
        }
        return last;
    }

    /** All that a snapshot holds. */
    private static final class Book {
        final Cards cards = new Cards();
        final Evening evening = new Evening();
        final Tally tally = new Tally();
        final int[] settings = new int[SETTINGS];
        int lot = 1;

        Book() {
            System.arraycopy(FIRST_VALUES, 0, settings, 0, SETTINGS);
        }

        void copyFrom(Book other) {
            cards.copyFrom(other.cards);
            evening.copyFrom(other.evening);
            tally.copyFrom(other.tally);
            System.arraycopy(other.settings, 0, settings, 0, SETTINGS);
            lot = other.lot;
        }

        int reasonAgainstPlace(int row, int number) {
            int reason = cards.reasonAgainst(row, number);
            return reason == 0 && evening.isBought(row / ROWS) ? 5 : reason;
        }

        int place(int row, int number) {
            int reason = reasonAgainstPlace(row, number);
            if (reason == 0) {
                cards.stand(row, number);
            }
            return reason;
        }

        int placeByLot(int card, int many, Drum free) {
            free.holdNumbersOutOf(cards);
            int placed = 0;
            for (int i = 0; i < many && free.size > 0; i++) {
                lot = lotAfter(lot);
                int number = free.byLot(lot);
                int row = firstRowFor(card, number);
                if (row != NONE) {
                    free.takeOut(lot);
                    cards.stand(row, number);
                    placed++;
                }
            }
            return placed;
        }

        /** The first row of a card in which a number can stand; NONE if there is none. */
        private int firstRowFor(int card, int number) {
            for (int row = card * ROWS; row < card * ROWS + ROWS; row++) {
                if (reasonAgainstPlace(row, number) == 0) {
                    return row;
                }
            }
            return NONE;
        }

        boolean isForSale(int card) {
            return !evening.isBought(card) && cards.isWhole(card) && evening.calls == 0;
        }

        int sell(int card) {
            evening.bought |= 1 << card;
            return tally.takeIn(settings[PRICE]);
        }

        int drawBalls(int balls) {
            int number = NONE;
            for (int i = 0; i < balls && evening.drum.size > 0; i++) {
                lot = lotAfter(lot);
                number = evening.drum.takeOut(lot);
                evening.tell(number, settings[SLIPS]);
            }
            return number;
        }

        int reasonAgainstClaim(int card, int game) {
            if (evening.winners[game] != 0 && evening.wonAt[game] < evening.calls) {
                return 1;
            }
            if ((evening.winners[game] & 1 << card) != 0) {
                return 2;
            }
            if (cards.unmarkedOfGame(card, game, evening.drawnAt) > 0) {
                return cards.unmarkedOfGame(card, game, evening.saidTimes) == 0 ? 3 : 4;
            }
            return settings[LAST_BALL] == 1 && !isHeldByLastBall(card, game) ? 5 : 0;
        }

        /** Of a game that the card holds. */
        private boolean isHeldByLastBall(int card, int game) {
            int last = evening.lastDrawn();
            if (!cards.standsIn(card, last)) {
                return false;
            }
            if (game == CORNERS) {
                return cards.isCorner(last);
            }
            return cards.unmarkedInRow(cards.rowOf[last], evening.drawnAt) == 0;
        }

        int settleClaim(int card, int game) {
            int reason = reasonAgainstClaim(card, game);
            if (reason == 0) {
                evening.winners[game] |= 1 << card;
                evening.wonAt[game] = evening.calls;
                tally.claimsWon++;
            } else {
                tally.claimsTurnedDown++;
                tally.turnedDownOf[card]++;
            }
            return reason;
        }

        int prizeForEach(int game) {
            int winners = Integer.bitCount(evening.winners[game]);
            return winners == 0 ? 0 : tally.pot * HUNDREDTHS[game] / 100 / winners;
        }

        int payAndBeginAnew() {
            int left = tally.pot;
            for (int game = 0; game < GAMES; game++) {
                int prize = prizeForEach(game);
                for (int card = 0; card < CARDS; card++) {
                    if ((evening.winners[game] & 1 << card) != 0) {
                        tally.coinsOf[card] += prize;
                        tally.paid += prize;
                        left -= prize;
                    }
                }
            }
            tally.closeEvening(left);
            evening.begin();
            return left;
        }
    }

    /** The numbers in the rows. Marks, told by numbers, are above 0 for a number that is marked. */
    private static final class Cards {
        final int[] places = new int[CARDS * ROWS * COLUMNS];
        final int[] rowOf = new int[NUMBERS + 1];
        int size;

        Cards() {
            Arrays.fill(rowOf, NONE);
        }

        void copyFrom(Cards other) {
            System.arraycopy(other.places, 0, places, 0, CARDS * ROWS * COLUMNS);
            System.arraycopy(other.rowOf, 0, rowOf, 0, NUMBERS + 1);
            size = other.size;
        }

        static int columnOf(int number) {
            return number == NUMBERS ? COLUMNS - 1 : number / 10;
        }

        int numberIn(int row, int column) {
            return places[row * COLUMNS + column];
        }

        boolean standsIn(int card, int number) {
            return isNumber(number) && rowOf[number] != NONE && rowOf[number] / ROWS == card;
        }

        void stand(int row, int number) {
            places[row * COLUMNS + columnOf(number)] = number;
            rowOf[number] = row;
            size++;
        }

        void lift(int number) {
            places[rowOf[number] * COLUMNS + columnOf(number)] = 0;
            rowOf[number] = NONE;
            size--;
        }

        int reasonAgainst(int row, int number) {
            if (rowOf[number] != NONE) {
                return 1;
            }
            if (numberIn(row, columnOf(number)) != 0) {
                return 2;
            }
            if (rowSize(row) == ROW_SIZE) {
                return 3;
            }
            return breaksColumn(row, number) ? 4 : 0;
        }

        private boolean breaksColumn(int row, int number) {
            int top = row / ROWS * ROWS;
            int column = columnOf(number);
            for (int other = top; other < top + ROWS; other++) {
                int there = places[other * COLUMNS + column];
                if (there != 0 && (other < row && there > number || other > row && there < number)) {
                    return true;
                }
            }
            return false;
        }

        private int rowSize(int row) {
            int many = 0;
            for (int column = 0; column < COLUMNS; column++) {
                many += places[row * COLUMNS + column] == 0 ? 0 : 1;
            }
            return many;
        }

        int cardSize(int card) {
            int many = 0;
            for (int row = card * ROWS; row < card * ROWS + ROWS; row++) {
                many += rowSize(row);
            }
            return many;
        }

        boolean isWhole(int card) {
            return cardSize(card) == CARD_SIZE;
        }

        int wholeCards() {
            int many = 0;
            for (int card = 0; card < CARDS; card++) {
                many += isWhole(card) ? 1 : 0;
            }
            return many;
        }

        int unmarkedInRow(int row, int[] marks) {
            int many = 0;
            for (int column = 0; column < COLUMNS; column++) {
                many += isUnmarked(places[row * COLUMNS + column], marks) ? 1 : 0;
            }
            return many;
        }

        private static boolean isUnmarked(int number, int[] marks) {
            return number > 0 && marks[number] == 0;
        }

        int markedInCard(int card, int[] marks) {
            int many = 0;
            for (int row = card * ROWS; row < card * ROWS + ROWS; row++) {
                many += rowSize(row) - unmarkedInRow(row, marks);
            }
            return many;
        }

        boolean isLine(int row, int[] marks) {
            return rowSize(row) == ROW_SIZE && unmarkedInRow(row, marks) == 0;
        }

        int linesOf(int card, int[] marks) {
            int many = 0;
            for (int row = card * ROWS; row < card * ROWS + ROWS; row++) {
                many += isLine(row, marks) ? 1 : 0;
            }
            return many;
        }

        /** The lowest or the greatest number of the first or the last row; 0 if it has none. */
        private int corner(int card, int rank) {
            int row = card * ROWS + (rank < 2 ? 0 : ROWS - 1);
            for (int i = 0; i < COLUMNS; i++) {
                int column = rank % 2 == 0 ? i : COLUMNS - 1 - i;
                int number = places[row * COLUMNS + column];
                if (number != 0) {
                    return number;
                }
            }
            return 0;
        }

        boolean isCorner(int number) {
            for (int rank = 0; rank < 4; rank++) {
                if (corner(rowOf[number] / ROWS, rank) == number) {
                    return true;
                }
            }
            return false;
        }

        /** How many numbers a whole card lacks for a game; 0 if it holds it. */
        int unmarkedOfGame(int card, int game, int[] marks) {
            if (game == CORNERS) {
                return unmarkedCorners(card, marks);
            }
            int all = 0;
            int least = ROW_SIZE;
            int most = 0;
            for (int row = card * ROWS; row < card * ROWS + ROWS; row++) {
                int many = unmarkedInRow(row, marks);
                all += many;
                least = Math.min(least, many);
                most = Math.max(most, many);
            }
            if (game == LINE) {
                return least;
            }
            return game == TWO_LINES ? all - most : all;
        }

        private int unmarkedCorners(int card, int[] marks) {
            int many = 0;
            for (int rank = 0; rank < 4; rank++) {
                many += isUnmarked(corner(card, rank), marks) ? 1 : 0;
            }
            return many;
        }

        /** The one number that a whole card lacks for a game, of which it lacks just one. */
        int onlyUnmarked(int card, int game, int[] marks) {
            if (game == CORNERS) {
                return firstUnmarkedCorner(card, marks);
            }
            for (int row = card * ROWS; row < card * ROWS + ROWS; row++) {
                if (unmarkedInRow(row, marks) == 1) {
                    return firstUnmarkedIn(row, marks);
                }
            }
            return NONE;
        }

        private int firstUnmarkedCorner(int card, int[] marks) {
            for (int rank = 0; rank < 4; rank++) {
                if (isUnmarked(corner(card, rank), marks)) {
                    return corner(card, rank);
                }
            }
            return NONE;
        }

        private int firstUnmarkedIn(int row, int[] marks) {
            for (int column = 0; column < COLUMNS; column++) {
                if (isUnmarked(numberIn(row, column), marks)) {
                    return numberIn(row, column);
                }
            }
            return NONE;
        }
    }

    /** Numbers, ascending, of which some are taken out by lot. */
    private static final class Drum {
        final int[] numbers = new int[NUMBERS];
        int size;

        void copyFrom(Drum other) {
            System.arraycopy(other.numbers, 0, numbers, 0, other.size);
            size = other.size;
        }

        void holdAll() {
            for (int i = 0; i < NUMBERS; i++) {
                numbers[i] = i + 1;
            }
            size = NUMBERS;
        }

        void holdNumbersOutOf(Cards cards) {
            size = 0;
            for (int number = 1; number <= NUMBERS; number++) {
                if (cards.rowOf[number] == NONE) {
                    numbers[size] = number;
                    size++;
                }
            }
        }

        int byLot(int lot) {
            return size > 0 ? numbers[lot % size] : NONE;
        }

        int takeOut(int lot) {
            if (size == 0) {
                return NONE;
            }
            int rank = lot % size;
            int number = numbers[rank];
            size--;
            System.arraycopy(numbers, rank + 1, numbers, rank, size - rank);
            return number;
        }
    }

    /** What is forgotten when an evening begins anew. */
    private static final class Evening {
        final Drum drum = new Drum();
        final int[] drawn = new int[NUMBERS];
        final int[] said = new int[NUMBERS];
        final int[] drawnAt = new int[NUMBERS + 1];
        final int[] saidTimes = new int[NUMBERS + 1];
        final int[] winners = new int[GAMES];
        final int[] wonAt = new int[GAMES];
        int bought;
        int calls;
        int slips;

        Evening() {
            drum.holdAll();
        }

        void copyFrom(Evening other) {
            drum.copyFrom(other.drum);
            System.arraycopy(other.drawn, 0, drawn, 0, NUMBERS);
            System.arraycopy(other.said, 0, said, 0, NUMBERS);
            System.arraycopy(other.drawnAt, 0, drawnAt, 0, NUMBERS + 1);
            System.arraycopy(other.saidTimes, 0, saidTimes, 0, NUMBERS + 1);
            System.arraycopy(other.winners, 0, winners, 0, GAMES);
            System.arraycopy(other.wonAt, 0, wonAt, 0, GAMES);
            bought = other.bought;
            calls = other.calls;
            slips = other.slips;
        }

        void begin() {
            drum.holdAll();
            Arrays.fill(drawnAt, 0);
            Arrays.fill(saidTimes, 0);
            Arrays.fill(winners, 0);
            Arrays.fill(wonAt, 0);
            bought = 0;
            calls = 0;
            slips = 0;
        }

        boolean isBought(int card) {
            return (bought & 1 << card) != 0;
        }

        int gamesWonBy(int card) {
            int mask = 0;
            for (int game = 0; game < GAMES; game++) {
                mask |= (winners[game] >> card & 1) << game;
            }
            return mask;
        }

        int lastDrawn() {
            return calls > 0 ? drawn[calls - 1] : NONE;
        }

        /** The caller tells a ball that was drawn; slipEvery is 0 for a caller without slips. */
        void tell(int number, int slipEvery) {
            if (calls >= NUMBERS) {
                return;
            }
            boolean isSlip = slipEvery > 0 && (calls + 1) % slipEvery == 0;
            int spoken = isSlip ? number % NUMBERS + 1 : number;
            drawn[calls] = number;
            said[calls] = spoken;
            calls++;
            drawnAt[number] = calls;
            saidTimes[spoken]++;
            slips += isSlip ? 1 : 0;
        }
    }

    /** Coins, and what is counted over all evenings. */
    private static final class Tally {
        final int[] coinsOf = new int[CARDS];
        final int[] turnedDownOf = new int[CARDS];
        int pot;
        int cameIn;
        int paid;
        int house;
        int claimsWon;
        int claimsTurnedDown;
        int evenings;

        void copyFrom(Tally other) {
            System.arraycopy(other.coinsOf, 0, coinsOf, 0, CARDS);
            System.arraycopy(other.turnedDownOf, 0, turnedDownOf, 0, CARDS);
            pot = other.pot;
            cameIn = other.cameIn;
            paid = other.paid;
            house = other.house;
            claimsWon = other.claimsWon;
            claimsTurnedDown = other.claimsTurnedDown;
            evenings = other.evenings;
        }

        int takeIn(int coins) {
            pot += coins;
            cameIn += coins;
            return pot;
        }

        void closeEvening(int forHouse) {
            house += forHouse;
            pot = 0;
            evenings++;
        }

        /** What count() tells of these. */
        int told(int what) {
            switch (what) {
                case 3:
                    return pot;
                case 4:
                    return cameIn;
                case 5:
                    return paid;
                case 6:
                    return house;
                case 10:
                    return claimsWon;
                case 11:
                    return claimsTurnedDown;
                default:
                    return evenings;
            }
        }
    }

    /** The buffer. */
    private static final class Text {
        final int[] codes = new int[MOST_CODES];
        int length;

        /** The length of an order by its letter; 0 if no order begins so. */
        static int orderLength(int letter) {
            switch (letter) {
                case 'p':
                    return 5;
                case 'c':
                    return 3;
                case 'b':
                case 'd':
                    return 2;
                default:
                    return 0;
            }
        }

        int codeAt(int index) {
            return index >= 0 && index < length ? codes[index] : 0;
        }

        int digitAt(int index) {
            return codeAt(index) - '0';
        }

        int firstWrong() {
            int start = 0;
            for (int index = 0; index < length; index++) {
                if (index > start && index - start == orderLength(codeAt(start))) {
                    start = index;
                }
                if (!fits(start, index)) {
                    return index;
                }
            }
            return length;
        }

        boolean tellsEvening() {
            int start = 0;
            for (int turn = 0; turn < MOST_CODES && start < length; turn++) {
                start += orderLength(codeAt(start));
            }
            return length > 0 && start == length && firstWrong() == length;
        }

        /** Whether a character may stand there in an order of which all before it fits. */
        private boolean fits(int start, int index) {
            int letter = codeAt(start);
            if (index == start) {
                return orderLength(letter) > 0;
            }
            int digit = digitAt(index);
            if (digit < 0 || digit > 9) {
                return false;
            }
            if (letter == 'd') {
                return digit > 0;
            }
            switch (index - start) {
                case 1:
                    return isCard(digit);
                case 2:
                    return letter == 'c' ? isGame(digit) : isRow(digit);
                case 3:
                    return true;
                default:
                    return isNumber(10 * digitAt(index - 1) + digit);
            }
        }
    }
}
