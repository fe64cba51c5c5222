import java.util.Random;
import java.util.TreeMap;

/** Runs of calls by chance (the same ones every time), each answered by the book and the model. */
public final class RandomRunsTest {
    private static final int RUNS = 300;
    private static final int CALLS = 250;
    private static final String[] METHODS = {"put", "take", "fill", "buy", "seed", "set", "draw", "claim",
        "end", "append", "clearBuffer", "firstError", "run", "keep", "goBack", "undo", "at", "cardOf",
        "numberOf", "call", "gameOf", "count", "setting", "whyNot", "ifClaimed", "missing", "fullAt",
        "firstFull", "next", "drawnShare", "digest"};
    private static final int PUT = 0;
    private static final int FILL = 2;
    private static final int BUY = 3;
    private static final int SEED = 4;
    private static final int SET = 5;
    private static final int DRAW = 6;
    private static final int CLAIM = 7;
    private static final int END = 8;
    private static final int APPEND = 9;
    private static final int CLEAR_BUFFER = 10;
    private static final int FIRST_ERROR = 11;
    private static final int RUN = 12;
    private static final int DIGEST = 30;

    /** How often each method gave each answer from NONE to 5, or an exception. */
    private static final TreeMap<String, Integer> SEEN = new TreeMap<>();

    private final Random chance;
    private final TombolaBooks books = new TombolaBooks();
    private final Model model = new Model();
    private final int mood;

    private RandomRunsTest(int run) {
        chance = new Random(run);
        mood = run % 6;
    }

    public static void main(String[] args) {
        for (int run = 0; run < RUNS; run++) {
            new RandomRunsTest(run).play(run);
        }
        for (int reason = 0; reason <= 5; reason++) {
            Check.record(seen("claim " + reason) > 20, "too few claims with " + reason);
            Check.record(reason == 5 || seen("put " + reason) > 20, "too few puts with " + reason);
        }
        for (String method : METHODS) {
            Check.record(SEEN.keySet().stream().anyMatch(key -> key.startsWith(method + " ")), method);
        }
        if (args.length > 0) System.out.println(SEEN);
        Check.finish();
    }

    private static int seen(String key) {
        return SEEN.getOrDefault(key, 0);
    }

    private void play(int run) {
        if (mood > 0) {
            ask(run, SEED, chance.nextInt(10000), 0, 0);
            for (int card = 0; card < 6; card++) {
                ask(run, FILL, card, 60, 0);
            }
            ask(run, SET, 1, mood == 5 ? 1 : chance.nextInt(4), 0);
            ask(run, SET, 2, chance.nextInt(2), 0);
            buyCards(run);
        }
        for (int i = 0; i < CALLS; i++) {
            step(run);
            if (i % 10 == 0) {
                ask(run, DIGEST, 0, 0, 0);
            }
        }
    }

    private void buyCards(int run) {
        for (int card = 0; card < 6; card++) {
            if (chance.nextInt(8) > 0) {
                ask(run, BUY, card, 0, 0);
            }
        }
    }

    private void typeAndRun(int run) {
        ask(run, CLEAR_BUFFER, 0, 0, 0);
        for (int orders = 1 + chance.nextInt(6); orders > 0; orders--) {
            for (char sign : order().toCharArray()) {
                ask(run, APPEND, sign, 0, 0);
            }
        }
        ask(run, FIRST_ERROR, 0, 0, 0);
        ask(run, RUN, 0, 0, 0);
    }

    /** Draws a ball of a card, or one by whose slip a number of the card is said. */
    private void steer(int run, int card) {
        int place = chance.nextInt(27);
        int number = model.at(card, place / 9, place % 9);
        int ball = number > 1 && model.setting(1) > 0 ? number - 1 : number;
        if (number > 0 && model.numberOf(ball, 2) == 0) {
            ask(run, SEED, model.lotFor(ball), 0, 0);
            ask(run, DRAW, 1, 0, 0);
        }
    }

    private void step(int run) {
        if (mood >= 3 && chance.nextInt(3) > 0) {
            steer(run, run / 6 % 2);
            return;
        }
        int method = method();
        if (method == CLAIM && mood >= 3 && chance.nextInt(4) > 0) {
            int game = chance.nextInt(4);
            ask(run, CLAIM, run / 6 % 2, game, 0);
            ask(run, CLAIM, run / 6 % 2, game, 0);
            return;
        }
        if (method == APPEND && chance.nextInt(4) > 0) {
            typeAndRun(run);
            return;
        }
        boolean isWild = chance.nextInt(15) == 0;
        ask(run, method, argument(method, 0, isWild), argument(method, 1, isWild),
                argument(method, 2, isWild));
        if (method == END) {
            buyCards(run);
        }
    }

    private int method() {
        int dice = chance.nextInt(100);
        if (mood >= 2 && dice < 30) {
            return CLAIM;
        }
        if (mood >= 1 && dice < 50) {
            return DRAW;
        }
        if (mood == 0 && dice < 40) {
            return PUT;
        }
        if (dice > 93 && mood > 0) {
            return END;
        }
        return chance.nextInt(METHODS.length);
    }

    private int argument(int method, int rank, boolean isWild) {
        if (isWild) {
            return chance.nextInt(5) == 0 ? chance.nextInt() : chance.nextInt(100) - 3;
        }
        switch (METHODS[method]) {
            case "put":
            case "whyNot":
                return rank == 0 ? chance.nextInt(6) : rank == 1 ? chance.nextInt(3) : 1 + chance.nextInt(90);
            case "take":
                return 1 + chance.nextInt(90);
            case "fill":
                return rank == 0 ? chance.nextInt(6) : 1 + chance.nextInt(60);
            case "seed":
                return chance.nextInt(10000);
            case "set":
                return chance.nextInt(rank == 0 ? 3 : 6);
            case "draw":
                return 1 + chance.nextInt(mood < 3 ? 12 : 3);
            case "claim":
            case "ifClaimed":
            case "missing":
                return chance.nextInt(rank == 0 ? 6 : rank == 1 ? 4 : 2);
            case "keep":
            case "goBack":
                return chance.nextInt(2);
            case "append":
                return 33 + chance.nextInt(94);
            case "at":
                return chance.nextInt(rank == 0 ? 6 : rank == 1 ? 3 : 9);
            case "cardOf":
                return chance.nextInt(rank == 0 ? 6 : 9);
            case "numberOf":
                return rank == 0 ? 1 + chance.nextInt(90) : chance.nextInt(4);
            case "call":
                return chance.nextInt(rank == 0 ? 30 : 2);
            case "gameOf":
                return chance.nextInt(4);
            case "count":
                return chance.nextInt(15);
            case "setting":
                return chance.nextInt(3);
            case "next":
                return 1 + chance.nextInt(90);
            default:
                return chance.nextInt(rank == 0 ? 6 : 2);
        }
    }

    private String order() {
        String[] wrong = {"p9", "p0091", "d0", "c04", "x", "b", "p00"};
        switch (chance.nextInt(20)) {
            case 0:
                return wrong[chance.nextInt(wrong.length)];
            case 1:
            case 2:
            case 3:
                int number = 1 + chance.nextInt(90);
                return "p" + chance.nextInt(6) + chance.nextInt(3) + number / 10 + number % 10;
            case 4:
            case 5:
                return "b" + chance.nextInt(6);
            case 6:
            case 7:
            case 8:
            case 9:
            case 10:
            case 11:
                return "d" + (1 + chance.nextInt(9));
            default:
                return "c" + chance.nextInt(6) + chance.nextInt(4);
        }
    }

    private void ask(int run, int method, int a, int b, int c) {
        String due;
        String got;
        try {
            due = answer(model, method, a, b, c);
        } catch (RuntimeException e) {
            due = e.getClass().getSimpleName();
        }
        try {
            got = answer(books, method, a, b, c);
        } catch (RuntimeException e) {
            got = e.getClass().getSimpleName();
        }
        SEEN.merge(METHODS[method] + " " + due, 1, Integer::sum);
        Check.record(got.equals(due), "run " + run + ": " + METHODS[method] + "(" + a + ", " + b + ", " + c
                + ") answered " + got + ", due is " + due);
    }

    private static String answer(TombolaBooks x, int method, int a, int b, int c) {
        switch (METHODS[method]) {
            case "put":
                return "" + x.put(a, b, c);
            case "take":
                return "" + x.take(a);
            case "fill":
                return "" + x.fill(a, b);
            case "buy":
                return "" + x.buy(a);
            case "seed":
                return "" + x.seed(a);
            case "set":
                return "" + x.set(a, b);
            case "draw":
                return "" + x.draw(a);
            case "claim":
                return "" + x.claim(a, b);
            case "end":
                return "" + x.end();
            case "append":
                return "" + x.append(a);
            case "clearBuffer":
                return "" + x.clearBuffer();
            case "firstError":
                return "" + x.firstError();
            case "run":
                return "" + x.run();
            case "keep":
                return "" + x.keep(a);
            case "goBack":
                return "" + x.goBack(a);
            case "undo":
                return "" + x.undo();
            case "at":
                return "" + x.at(a, b, c);
            case "cardOf":
                return "" + x.cardOf(a, b);
            case "numberOf":
                return "" + x.numberOf(a, b);
            case "call":
                return "" + x.call(a, b);
            case "gameOf":
                return "" + x.gameOf(a, b);
            case "count":
                return "" + x.count(a);
            case "setting":
                return "" + x.setting(a);
            case "whyNot":
                return "" + x.whyNot(a, b, c);
            case "ifClaimed":
                return "" + x.ifClaimed(a, b);
            case "missing":
                return "" + x.missing(a, b, c);
            case "fullAt":
                return "" + x.fullAt(a, b);
            case "firstFull":
                return "" + x.firstFull();
            case "next":
                return "" + x.next(a);
            case "drawnShare":
                return "" + x.drawnShare();
            default:
                return "" + x.digest();
        }
    }

    private static String answer(Model x, int method, int a, int b, int c) {
        switch (METHODS[method]) {
            case "put":
                return "" + x.put(a, b, c);
            case "take":
                return "" + x.take(a);
            case "fill":
                return "" + x.fill(a, b);
            case "buy":
                return "" + x.buy(a);
            case "seed":
                return "" + x.seed(a);
            case "set":
                return "" + x.set(a, b);
            case "draw":
                return "" + x.draw(a);
            case "claim":
                return "" + x.claim(a, b);
            case "end":
                return "" + x.end();
            case "append":
                return "" + x.append(a);
            case "clearBuffer":
                return "" + x.clearBuffer();
            case "firstError":
                return "" + x.firstError();
            case "run":
                return "" + x.run();
            case "keep":
                return "" + x.keep(a);
            case "goBack":
                return "" + x.goBack(a);
            case "undo":
                return "" + x.undo();
            case "at":
                return "" + x.at(a, b, c);
            case "cardOf":
                return "" + x.cardOf(a, b);
            case "numberOf":
                return "" + x.numberOf(a, b);
            case "call":
                return "" + x.call(a, b);
            case "gameOf":
                return "" + x.gameOf(a, b);
            case "count":
                return "" + x.count(a);
            case "setting":
                return "" + x.setting(a);
            case "whyNot":
                return "" + x.whyNot(a, b, c);
            case "ifClaimed":
                return "" + x.ifClaimed(a, b);
            case "missing":
                return "" + x.missing(a, b, c);
            case "fullAt":
                return "" + x.fullAt(a, b);
            case "firstFull":
                return "" + x.firstFull();
            case "next":
                return "" + x.next(a);
            case "drawnShare":
                return "" + x.drawnShare();
            default:
                return "" + x.digest();
        }
    }
}
