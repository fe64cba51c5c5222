/** Promises 6, 7 and 24: seed, set, setting. */
public final class SettingsTest {
    public static void main(String[] args) {
        seeds();
        settings();
        Check.finish();
    }

    private static void seeds() {
        TombolaBooks b = new TombolaBooks();
        Check.due("seed(0)", b.seed(0), 1);
        Check.due("the next ball: 1663 of 90 is the rank 43", b.next(1), 44);
        Check.due("seed(9999)", b.seed(9999), 0);
        Check.due("the next ball: 1242 of 90 is the rank 72", b.next(1), 73);
        Check.due("seed(9999) again", b.seed(9999), 9999);
        Check.due("the lot", b.count(13), 9999);
        Check.due("each is saved", b.count(14), 3);
        Check.dueThrow("seed(-1)", IllegalArgumentException.class, () -> b.seed(-1));
        Check.dueThrow("seed(10000)", IllegalArgumentException.class, () -> b.seed(10000));
        Check.due("the lot stays", b.count(13), 9999);
    }

    private static void settings() {
        int[] first = {10, 0, 0};
        int[] least = {1, 0, 0};
        int[] greatest = {99, 99, 1};
        TombolaBooks b = new TombolaBooks();
        for (int i = 0; i < 3; i++) {
            int setting = i;
            Check.due("first", b.setting(setting), first[setting]);
            Check.due("set to the greatest", b.set(setting, greatest[setting]), first[setting]);
            Check.due("the greatest", b.setting(setting), greatest[setting]);
            Check.due("set to the least", b.set(setting, least[setting]), greatest[setting]);
            Check.due("the least", b.setting(setting), least[setting]);
            Check.due("each is saved", b.count(14), Math.min(6, 2 * setting + 2));
            Check.dueThrow("too low", IllegalArgumentException.class,
                    () -> b.set(setting, least[setting] - 1));
            Check.dueThrow("too high", IllegalArgumentException.class,
                    () -> b.set(setting, greatest[setting] + 1));
            Check.due("stays", b.setting(setting), least[setting]);
        }
        for (int setting : new int[] {-1, 3, Integer.MIN_VALUE, Integer.MAX_VALUE}) {
            Check.dueThrow("setting", IndexOutOfBoundsException.class, () -> b.setting(setting));
            Check.dueThrow("set", IndexOutOfBoundsException.class, () -> b.set(setting, -1));
        }
    }
}
