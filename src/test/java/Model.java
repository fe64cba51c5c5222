import java.util.ArrayDeque;
import java.util.ArrayList;
import java.util.Arrays;
import java.util.List;
import java.util.TreeMap;
import java.util.TreeSet;
import java.util.regex.Matcher;
import java.util.regex.Pattern;

/**
 * The document once more, by sets, lists and patterns: slow, made of the Java library, and held in
 * another way than the program, so that both are not wrong together.
 */
final class Model {
    private static final Pattern EVENING = Pattern.compile(
            "(?:p[0-5][0-2](?:0[1-9]|[1-8][0-9]|90)|b[0-5]|d[1-9]|c[0-5][0-3])+");
    private static final Pattern ORDER = Pattern.compile("[a-z][0-9]+");
    private static final int[] PARTS = {10, 10, 20, 40};

    /** All that a snapshot holds. */
    private static final class State {
        final TreeMap<Integer, Integer> rows = new TreeMap<>();
        final TreeSet<Integer> bought = new TreeSet<>();
        final List<Integer> drawn = new ArrayList<>();
        final List<Integer> said = new ArrayList<>();
        final List<TreeSet<Integer>> winners = new ArrayList<>();
        int[] wonAt = new int[4];
        int slips;
        int x = 1;
        int[] settings = {10, 0, 0};
        int pot;
        int in;
        int paid;
        int house;
        int won;
        int down;
        int evenings;
        int[] coins = new int[6];
        int[] downs = new int[6];

        State() {
            for (int game = 0; game < 4; game++) {
                winners.add(new TreeSet<>());
            }
        }

        State copy() {
            State c = new State();
            c.rows.putAll(rows);
            c.bought.addAll(bought);
            c.drawn.addAll(drawn);
            c.said.addAll(said);
            for (int game = 0; game < 4; game++) {
                c.winners.get(game).addAll(winners.get(game));
            }
            c.wonAt = wonAt.clone();
            c.slips = slips;
            c.x = x;
            c.settings = settings.clone();
            c.pot = pot;
            c.in = in;
            c.paid = paid;
            c.house = house;
            c.won = won;
            c.down = down;
            c.evenings = evenings;
            c.coins = coins.clone();
            c.downs = downs.clone();
            return c;
        }
    }

    private State s = new State();
    private final State[] slots = new State[2];
    private final ArrayDeque<State> saved = new ArrayDeque<>();
    private String buffer = "";

    private static void index(int value, int least, int greatest) {
        if (value < least || value > greatest) {
            throw new IndexOutOfBoundsException();
        }
    }

    private static void argument(int value, int least, int greatest) {
        if (value < least || value > greatest) {
            throw new IllegalArgumentException();
        }
    }

    private static void state(boolean isSo) {
        if (!isSo) {
            throw new IllegalStateException();
        }
    }

    private void save() {
        saved.addLast(s.copy());
        if (saved.size() > 6) {
            saved.removeFirst();
        }
    }

    private static int columnOf(int number) {
        return number == 90 ? 8 : number / 10;
    }

    private List<Integer> inRow(int row) {
        List<Integer> found = new ArrayList<>();
        s.rows.forEach((number, where) -> {
            if (where == row) {
                found.add(number);
            }
        });
        return found;
    }

    private List<Integer> inCard(int card) {
        List<Integer> found = new ArrayList<>();
        for (int row = 3 * card; row < 3 * card + 3; row++) {
            found.addAll(inRow(row));
        }
        return found;
    }

    private int draw(List<Integer> things) {
        s.x = (s.x * 421 + 1663) % 10000;
        return things.get(s.x % things.size());
    }

    private List<Integer> drum() {
        List<Integer> balls = new ArrayList<>();
        for (int number = 1; number <= 90; number++) {
            if (!s.drawn.contains(number)) {
                balls.add(number);
            }
        }
        return balls;
    }

    // ---- cards

    int whyNot(int card, int row, int number) {
        index(card, 0, 5);
        index(row, 0, 2);
        argument(number, 1, 90);
        if (s.rows.containsKey(number)) {
            return 1;
        }
        List<Integer> mates = inRow(3 * card + row);
        if (mates.stream().anyMatch(mate -> columnOf(mate) == columnOf(number))) {
            return 2;
        }
        if (mates.size() == 5) {
            return 3;
        }
        for (int mate : inCard(card)) {
            int where = s.rows.get(mate) - 3 * card;
            if (columnOf(mate) == columnOf(number) && Integer.compare(where, row) * (mate - number) < 0) {
                return 4;
            }
        }
        return s.bought.contains(card) ? 5 : 0;
    }

    private int doPut(int card, int row, int number) {
        int reason = whyNot(card, row, number);
        if (reason == 0) {
            s.rows.put(number, 3 * card + row);
        }
        return reason;
    }

    int put(int card, int row, int number) {
        whyNot(card, row, number);
        save();
        return doPut(card, row, number);
    }

    int take(int number) {
        argument(number, 1, 90);
        state(s.rows.containsKey(number) && !s.bought.contains(s.rows.get(number) / 3));
        save();
        int where = s.rows.remove(number);
        return 10 * (where / 3) + where % 3;
    }

    int fill(int card, int many) {
        index(card, 0, 5);
        argument(many, 1, 60);
        state(!s.bought.contains(card));
        save();
        int before = s.rows.size();
        for (int i = 0; i < many && s.rows.size() < 90; i++) {
            List<Integer> free = new ArrayList<>();
            for (int number = 1; number <= 90; number++) {
                if (!s.rows.containsKey(number)) {
                    free.add(number);
                }
            }
            int number = draw(free);
            for (int row = 0; row < 3 && !s.rows.containsKey(number); row++) {
                doPut(card, row, number);
            }
        }
        return s.rows.size() - before;
    }

    private boolean isWhole(int card) {
        return inRow(3 * card).size() == 5 && inRow(3 * card + 1).size() == 5
                && inRow(3 * card + 2).size() == 5;
    }

    private int doBuy(int card) {
        index(card, 0, 5);
        state(!s.bought.contains(card) && isWhole(card) && s.drawn.isEmpty());
        s.bought.add(card);
        s.pot += s.settings[0];
        s.in += s.settings[0];
        return s.pot;
    }

    int buy(int card) {
        State before = s.copy();
        int coins = doBuy(card);
        State after = s;
        s = before;
        save();
        s = after;
        return coins;
    }

    int seed(int x) {
        argument(x, 0, 9999);
        save();
        int before = s.x;
        s.x = x;
        return before;
    }

    int set(int setting, int value) {
        index(setting, 0, 2);
        argument(value, setting == 0 ? 1 : 0, setting == 2 ? 1 : 99);
        save();
        int before = s.settings[setting];
        s.settings[setting] = value;
        return before;
    }

    // ---- the evening

    private int doDraw(int balls) {
        argument(balls, 1, 90);
        state(s.drawn.size() + balls <= 90);
        int ball = 0;
        for (int i = 0; i < balls; i++) {
            ball = draw(drum());
            s.drawn.add(ball);
            boolean isSlip = s.settings[1] > 0 && s.drawn.size() % s.settings[1] == 0;
            s.said.add(!isSlip ? ball : ball == 90 ? 1 : ball + 1);
            s.slips += isSlip ? 1 : 0;
        }
        return ball;
    }

    int draw(int balls) {
        argument(balls, 1, 90);
        state(s.drawn.size() + balls <= 90);
        save();
        return doDraw(balls);
    }

    /** The sets of numbers by any of which a card holds a game. */
    private List<List<Integer>> waysOf(int card, int game) {
        List<List<Integer>> lines = new ArrayList<>();
        for (int row = 3 * card; row < 3 * card + 3; row++) {
            lines.add(inRow(row));
        }
        if (game == 0) {
            return lines;
        }
        if (game == 1) {
            List<Integer> top = lines.get(0);
            List<Integer> low = lines.get(2);
            return List.of(List.of(top.get(0), top.get(4), low.get(0), low.get(4)));
        }
        if (game == 3) {
            return List.of(inCard(card));
        }
        List<List<Integer>> pairs = new ArrayList<>();
        for (int[] pair : new int[][] {{0, 1}, {0, 2}, {1, 2}}) {
            List<Integer> both = new ArrayList<>(lines.get(pair[0]));
            both.addAll(lines.get(pair[1]));
            pairs.add(both);
        }
        return pairs;
    }

    private int reason(int card, int game) {
        if (!s.winners.get(game).isEmpty() && s.wonAt[game] < s.drawn.size()) {
            return 1;
        }
        if (s.winners.get(game).contains(card)) {
            return 2;
        }
        TreeSet<Integer> held = new TreeSet<>();
        boolean isSaid = false;
        for (List<Integer> way : waysOf(card, game)) {
            if (s.drawn.containsAll(way)) {
                held.addAll(way);
            }
            isSaid |= s.said.containsAll(way);
        }
        if (held.isEmpty()) {
            return isSaid ? 3 : 4;
        }
        return s.settings[2] == 1 && !held.contains(s.drawn.get(s.drawn.size() - 1)) ? 5 : 0;
    }

    private int doClaim(int card, int game) {
        index(card, 0, 5);
        index(game, 0, 3);
        state(s.bought.contains(card));
        int reason = reason(card, game);
        if (reason > 0) {
            s.down++;
            s.downs[card]++;
        } else {
            s.won++;
            s.winners.get(game).add(card);
            s.wonAt[game] = s.drawn.size();
        }
        return reason;
    }

    int claim(int card, int game) {
        index(card, 0, 5);
        index(game, 0, 3);
        state(s.bought.contains(card));
        save();
        return doClaim(card, game);
    }

    int end() {
        save();
        int house = s.pot;
        for (int game = 0; game < 4; game++) {
            for (int card : s.winners.get(game)) {
                int coins = gameOf(game, 3);
                s.coins[card] += coins;
                s.paid += coins;
                house -= coins;
            }
        }
        s.house += house;
        s.evenings++;
        s.pot = 0;
        s.drawn.clear();
        s.said.clear();
        s.slips = 0;
        s.bought.clear();
        s.wonAt = new int[4];
        s.winners.forEach(TreeSet::clear);
        return house;
    }

    // ---- texts, snapshots

    int append(int code) {
        argument(code, 33, 126);
        state(buffer.length() < 60);
        buffer += (char) code;
        return buffer.length();
    }

    int clearBuffer() {
        int before = buffer.length();
        buffer = "";
        return before;
    }

    int firstError() {
        for (int end = 1; end <= buffer.length(); end++) {
            Matcher matcher = EVENING.matcher(buffer.substring(0, end));
            if (!matcher.matches() && !matcher.hitEnd()) {
                return end - 1;
            }
        }
        return buffer.length();
    }

    int run() {
        if (!EVENING.matcher(buffer).matches()) {
            throw new IllegalArgumentException();
        }
        save();
        int done = 0;
        Matcher orders = ORDER.matcher(buffer);
        try {
            while (orders.find() && isDone(orders.group())) {
                done++;
            }
        } catch (IllegalStateException e) {
            // Such an order is not done, nor any behind it.
        }
        buffer = "";
        return done;
    }

    private boolean isDone(String order) {
        int first = order.charAt(1) - '0';
        switch (order.charAt(0)) {
            case 'p':
                return doPut(first, order.charAt(2) - '0', Integer.parseInt(order.substring(3))) == 0;
            case 'b':
                return doBuy(first) > 0;
            case 'd':
                return doDraw(first) > 0;
            default:
                return doClaim(first, order.charAt(2) - '0') == 0;
        }
    }

    int keep(int slot) {
        argument(slot, 0, 1);
        slots[slot] = s.copy();
        return s.rows.size();
    }

    int goBack(int slot) {
        argument(slot, 0, 1);
        state(slots[slot] != null);
        save();
        s = slots[slot].copy();
        return s.rows.size();
    }

    int undo() {
        state(!saved.isEmpty());
        s = saved.removeLast();
        return saved.size();
    }

    // ---- looks

    int at(int card, int row, int column) {
        index(card, 0, 5);
        index(row, 0, 2);
        index(column, 0, 8);
        return inRow(3 * card + row).stream().filter(n -> columnOf(n) == column).findFirst().orElse(0);
    }

    private static int common(List<Integer> some, List<Integer> others) {
        return (int) some.stream().filter(others::contains).count();
    }

    int cardOf(int card, int what) {
        index(card, 0, 5);
        argument(what, 0, 8);
        int lines = 0;
        int games = 0;
        for (int i = 0; i < 3; i++) {
            lines += common(inRow(3 * card + i), s.drawn) == 5 ? 1 : 0;
        }
        for (int game = 0; game < 4; game++) {
            games += s.winners.get(game).contains(card) ? 1 << game : 0;
        }
        return new int[] {inCard(card).size(), isWhole(card) ? 1 : 0, s.bought.contains(card) ? 1 : 0,
            common(inCard(card), s.drawn), common(inCard(card), s.said), lines, games,
            s.coins[card], s.downs[card]}[what];
    }

    /** A lot behind which the next ball is this one, which is in the drum. */
    int lotFor(int ball) {
        return Play.lotFor(drum().indexOf(ball), 90 - s.drawn.size());
    }

    int numberOf(int number, int what) {
        argument(number, 1, 90);
        argument(what, 0, 3);
        Integer row = s.rows.get(number);
        switch (what) {
            case 0:
                return row == null ? -1 : row / 3;
            case 1:
                return row == null ? -1 : row % 3;
            case 2:
                return s.drawn.indexOf(number) + 1;
            default:
                return (int) s.said.stream().filter(n -> n == number).count();
        }
    }

    int call(int ago, int what) {
        argument(ago, 0, Integer.MAX_VALUE);
        argument(what, 0, 1);
        List<Integer> calls = what == 0 ? s.drawn : s.said;
        return ago < calls.size() ? calls.get(calls.size() - 1 - ago) : -1;
    }

    int gameOf(int game, int what) {
        index(game, 0, 3);
        argument(what, 0, 3);
        TreeSet<Integer> winners = s.winners.get(game);
        int each = winners.isEmpty() ? 0 : s.pot * PARTS[game] / 100 / winners.size();
        int mask = 0;
        for (int card : winners) {
            mask += 1 << card;
        }
        return new int[] {mask, s.wonAt[game], each * winners.size(), each}[what];
    }

    int count(int what) {
        argument(what, 0, 14);
        int whole = 0;
        for (int card = 0; card < 6; card++) {
            whole += isWhole(card) ? 1 : 0;
        }
        return new int[] {s.rows.size(), whole, s.bought.size(), s.pot, s.in, s.paid, s.house,
            90 - s.drawn.size(), s.drawn.size(), s.slips, s.won, s.down, s.evenings, s.x,
            saved.size()}[what];
    }

    int setting(int setting) {
        index(setting, 0, 2);
        return s.settings[setting];
    }

    // ---- what would be

    int ifClaimed(int card, int game) {
        index(card, 0, 5);
        index(game, 0, 3);
        return s.bought.contains(card) ? reason(card, game) : -1;
    }

    int missing(int card, int game, int what) {
        index(card, 0, 5);
        index(game, 0, 3);
        argument(what, 0, 1);
        if (!isWhole(card)) {
            return -1;
        }
        List<Integer> fewest = null;
        for (List<Integer> way : waysOf(card, game)) {
            List<Integer> lacks = new ArrayList<>(way);
            lacks.removeAll(s.drawn);
            if (fewest == null || lacks.size() < fewest.size()) {
                fewest = lacks;
            }
        }
        return what == 0 ? fewest.size() : fewest.size() == 1 ? fewest.get(0) : -1;
    }

    private List<Integer> allCalls() {
        List<Integer> order = new ArrayList<>(s.drawn);
        List<Integer> balls = drum();
        int before = s.x;
        while (!balls.isEmpty()) {
            Integer ball = draw(balls);
            order.add(ball);
            balls.remove(ball);
        }
        s.x = before;
        return order;
    }

    int fullAt(int card, int what) {
        index(card, 0, 5);
        argument(what, 0, 1);
        if (!isWhole(card)) {
            return -1;
        }
        List<Integer> order = allCalls();
        int call = 1;
        while (!order.subList(0, call).containsAll(inCard(card))) {
            call++;
        }
        return call;
    }

    int firstFull() {
        int first = -1;
        for (int card = 0; card < 6; card++) {
            if (isWhole(card) && (first < 0 || fullAt(card, 0) < fullAt(first, 0))) {
                first = card;
            }
        }
        return first;
    }

    int next(int ahead) {
        argument(ahead, 1, 90);
        int call = s.drawn.size() + ahead;
        return call <= 90 ? allCalls().get(call - 1) : -1;
    }

    double drawnShare() {
        int all = s.rows.size();
        return all == 0 ? 0.0 : (double) common(new ArrayList<>(s.rows.keySet()), s.drawn) / all;
    }

    long digest() {
        List<Long> list = new ArrayList<>();
        for (int i = 0; i < 15; i++) {
            list.add((long) count(i));
        }
        Arrays.stream(s.settings).forEach(value -> list.add((long) value));
        for (int place = 0; place < 162; place++) {
            list.add((long) at(place / 27, place / 9 % 3, place % 9));
        }
        for (int card = 0; card < 6; card++) {
            for (int what = 0; what < 9; what++) {
                list.add((long) cardOf(card, what));
            }
            for (int game = 0; game < 4; game++) {
                list.add((long) ifClaimed(card, game));
                list.add((long) missing(card, game, 0));
                list.add((long) missing(card, game, 1));
            }
            list.add((long) fullAt(card, 0));
        }
        for (int i = 0; i < 360; i++) {
            list.add((long) numberOf(i / 4 + 1, i % 4));
        }
        for (int i = 0; i < 20; i++) {
            list.add((long) call(i / 2, i % 2));
        }
        for (int i = 0; i < 16; i++) {
            list.add((long) gameOf(i / 4, i % 4));
        }
        for (int row = 0; row < 18; row++) {
            list.add((long) whyNot(row / 3, row % 3, 45));
        }
        list.addAll(List.of((long) firstFull(), (long) next(1), (long) next(2), (long) next(3)));
        list.add(Double.doubleToLongBits(drawnShare()));
        list.addAll(List.of(slots[0] == null ? 0L : 1L, slots[1] == null ? 0L : 1L));
        list.add((long) buffer.length());
        buffer.chars().forEach(code -> list.add((long) code));
        long hash = 3307;
        for (long v : list) {
            hash = 31 * hash + v;
        }
        return hash;
    }
}
