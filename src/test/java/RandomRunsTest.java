import java.lang.reflect.InvocationTargetException;
import java.lang.reflect.Method;
import java.lang.reflect.Modifier;
import java.util.Arrays;
import java.util.Random;
import java.util.TreeMap;

/** Runs of calls by chance (the same ones every time), each answered by the book and the model. */
public final class RandomRunsTest {
    private static final int RUNS = 300;
    private static final int STEPS = 250;
    /** A step takes less than 62 calls, and a book is only good for 512. */
    private static final int ENOUGH = 450;
    private static final String[] METHODS = {"put", "take", "fill", "buy", "seed", "set", "draw", "claim",
        "end", "append", "clearBuffer", "firstError", "run", "keep", "goBack", "undo", "at", "cardOf",
        "numberOf", "call", "gameOf", "count", "setting", "whyNot", "ifClaimed", "missing", "fullAt",
        "firstFull", "next", "drawnShare", "digest"};
    private static final int PUT = 0;
    private static final int FILL = 2;
    private static final int BUY = 3;
    private static final int SEED = 4;
    private static final int SET = 5;
    private static final int DRAW = 6;
    private static final int CLAIM = 7;
    private static final int END = 8;
    private static final int APPEND = 9;
    private static final int CLEAR_BUFFER = 10;
    private static final int FIRST_ERROR = 11;
    private static final int RUN = 12;
    private static final int DIGEST = 30;

    /** How often each method gave each answer from NONE to 5, or an exception. */
    private static final TreeMap<String, Integer> SEEN = new TreeMap<>();

    private final Random chance;
    private final TombolaBooks books = new TombolaBooks();
    private final Model model = new Model();
    private final int mood;
    private int asked;

    private RandomRunsTest(int run) {
        chance = new Random(run);
        mood = run % 6;
    }

    public static void main(String[] args) {
        for (int run = 0; run < RUNS; run++) {
            new RandomRunsTest(run).play(run);
        }
        for (int reason = 0; reason <= 5; reason++) {
            Check.record(seen("claim " + reason) > 20, "too few claims with " + reason);
            Check.record(reason == 5 || seen("put " + reason) > 20, "too few puts with " + reason);
        }
        for (String method : METHODS) {
            Check.record(SEEN.keySet().stream().anyMatch(key -> key.startsWith(method + " ")), method);
        }
        Check.finish();
    }

    private static int seen(String key) {
        return SEEN.getOrDefault(key, 0);
    }

    private void play(int run) {
        if (mood > 0) {
            ask(run, SEED, chance.nextInt(10000));
            for (int card = 0; card < 6; card++) {
                ask(run, FILL, card, 60);
            }
            ask(run, SET, 1, mood == 5 ? 1 : chance.nextInt(4));
            ask(run, SET, 2, chance.nextInt(2));
            buyCards(run);
        }
        for (int i = 0; i < STEPS && asked < ENOUGH; i++) {
            step(run);
            if (i % 10 == 0) {
                ask(run, DIGEST);
            }
        }
    }

    private void buyCards(int run) {
        for (int card = 0; card < 6; card++) {
            if (chance.nextInt(8) > 0) {
                ask(run, BUY, card);
            }
        }
    }

    private void typeAndRun(int run) {
        ask(run, CLEAR_BUFFER);
        for (int orders = 1 + chance.nextInt(6); orders > 0; orders--) {
            for (char sign : order().toCharArray()) {
                ask(run, APPEND, sign);
            }
        }
        ask(run, FIRST_ERROR);
        ask(run, RUN);
    }

    /** Draws a ball of a card, or one by whose slip a number of the card is said. */
    private void steer(int run, int card) {
        int place = chance.nextInt(27);
        int number = model.at(card, place / 9, place % 9);
        int ball = number > 1 && model.setting(1) > 0 ? number - 1 : number;
        if (number > 0 && model.numberOf(ball, 2) == 0) {
            ask(run, SEED, model.lotFor(ball));
            ask(run, DRAW, 1);
        }
    }

    private void step(int run) {
        if (mood >= 3 && chance.nextInt(3) > 0) {
            steer(run, run / 6 % 2);
            return;
        }
        int method = method();
        if (method == CLAIM && mood >= 3 && chance.nextInt(4) > 0) {
            int game = chance.nextInt(4);
            ask(run, CLAIM, run / 6 % 2, game);
            ask(run, CLAIM, run / 6 % 2, game);
            return;
        }
        if (method == APPEND && chance.nextInt(4) > 0) {
            typeAndRun(run);
            return;
        }
        boolean isWild = chance.nextInt(15) == 0;
        ask(run, method, argument(method, 0, isWild), argument(method, 1, isWild),
                argument(method, 2, isWild));
        if (method == END) {
            buyCards(run);
        }
    }

    private int method() {
        int dice = chance.nextInt(100);
        if (mood >= 2 && dice < 30) {
            return CLAIM;
        }
        if (mood >= 1 && dice < 50) {
            return DRAW;
        }
        if (mood == 0 && dice < 40) {
            return PUT;
        }
        if (dice > 93 && mood > 0) {
            return END;
        }
        return chance.nextInt(METHODS.length);
    }

    private int argument(int method, int rank, boolean isWild) {
        if (isWild) {
            return chance.nextInt(5) == 0 ? chance.nextInt() : chance.nextInt(100) - 3;
        }
        switch (METHODS[method]) {
            case "put":
            case "whyNot":
                return rank == 0 ? chance.nextInt(6) : rank == 1 ? chance.nextInt(3) : 1 + chance.nextInt(90);
            case "take":
                return 1 + chance.nextInt(90);
            case "fill":
                return rank == 0 ? chance.nextInt(6) : 1 + chance.nextInt(60);
            case "seed":
                return chance.nextInt(10000);
            case "set":
                return chance.nextInt(rank == 0 ? 3 : 6);
            case "draw":
                return 1 + chance.nextInt(mood < 3 ? 12 : 3);
            case "claim":
            case "ifClaimed":
            case "missing":
                return chance.nextInt(rank == 0 ? 6 : rank == 1 ? 4 : 2);
            case "keep":
            case "goBack":
                return chance.nextInt(2);
            case "append":
                return 33 + chance.nextInt(94);
            case "at":
                return chance.nextInt(rank == 0 ? 6 : rank == 1 ? 3 : 9);
            case "cardOf":
                return chance.nextInt(rank == 0 ? 6 : 9);
            case "numberOf":
                return rank == 0 ? 1 + chance.nextInt(90) : chance.nextInt(4);
            case "call":
                return chance.nextInt(rank == 0 ? 30 : 2);
            case "gameOf":
                return chance.nextInt(4);
            case "count":
                return chance.nextInt(15);
            case "setting":
                return chance.nextInt(3);
            case "next":
                return 1 + chance.nextInt(90);
            default:
                return chance.nextInt(rank == 0 ? 6 : 2);
        }
    }

    private String order() {
        String[] wrong = {"p9", "p0091", "d0", "c04", "x", "b", "p00"};
        switch (chance.nextInt(20)) {
            case 0:
                return wrong[chance.nextInt(wrong.length)];
            case 1:
            case 2:
            case 3:
                int number = 1 + chance.nextInt(90);
                return "p" + chance.nextInt(6) + chance.nextInt(3) + number / 10 + number % 10;
            case 4:
            case 5:
                return "b" + chance.nextInt(6);
            case 6:
            case 7:
            case 8:
            case 9:
            case 10:
            case 11:
                return "d" + (1 + chance.nextInt(9));
            default:
                return "c" + chance.nextInt(6) + chance.nextInt(4);
        }
    }

    private void ask(int run, int method, int... arguments) {
        asked++;
        String due = answer(model, METHODS[method], arguments);
        String got = answer(books, METHODS[method], arguments);
        SEEN.merge(METHODS[method] + " " + due, 1, Integer::sum);
        Check.record(got.equals(due), "run " + run + ": " + METHODS[method] + Arrays.toString(arguments)
                + " answered " + got + ", due is " + due);
    }

    /** What a method answers to the first of the arguments, or the exception that it throws. */
    private static String answer(Object asked, String name, int[] arguments) {
        Method method = null;
        for (Method each : asked.getClass().getDeclaredMethods()) {
            boolean isOpen = !Modifier.isPrivate(each.getModifiers());
            method = isOpen && each.getName().equals(name) ? each : method;
        }
        Object[] taken = Arrays.stream(arguments).limit(method.getParameterCount()).boxed().toArray();
        try {
            return "" + method.invoke(asked, taken);
        } catch (InvocationTargetException e) {
            return e.getCause().getClass().getSimpleName();
        } catch (IllegalAccessException e) {
            throw new AssertionError(e);
        }
    }
}
