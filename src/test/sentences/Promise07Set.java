/** Promise 7. */
@Head("Promise 7: set")
final class Promise07Set {
    private static final int[] LEAST = {1, 0, 0};
    private static final int[] GREATEST = {99, 99, 1};

    private Promise07Set() {
    }

    @Sentence("Changes a setting.")
    static void aSettingIsChanged() {
        TombolaBooks b = new TombolaBooks();
        b.set(1, 7);
        Check.due("the setting 0 stays", b.setting(0), 10);
        Check.due("the setting 1", b.setting(1), 7);
        Check.due("the setting 2 stays", b.setting(2), 0);
    }

    @Sentence("Undoable.")
    static void undoable() {
        Probe.undoable("the price", () -> Play.rich().books, b -> b.set(0, 99));
        Probe.undoable("slips", () -> Play.rich().books, b -> b.set(1, 99));
        Probe.undoable("the last ball", () -> Play.rich().books, b -> b.set(2, 1));
        Probe.undoable("a set that changes nothing", TombolaBooks::new, b -> b.set(0, 10));
    }

    @Sentence("`setting`: 0 to 2")
    static void setting() {
        Bounds.inside(0, 2, TombolaBooks::new, (b, setting) -> {
            b.set(setting, 1);
            return b.setting(setting);
        }, setting -> 1);
    }

    @Sentence("`value`: the new value")
    static void value() {
        for (int setting = 0; setting < 3; setting++) {
            int which = setting;
            Bounds.inside(LEAST[setting], GREATEST[setting], TombolaBooks::new, (b, value) -> {
                b.set(which, value);
                return b.setting(which);
            }, value -> value);
        }
    }

    @Sentence("Returns the previous value.")
    static void returnsThePreviousValue() {
        int[] first = {10, 0, 0};
        for (int setting = 0; setting < 3; setting++) {
            TombolaBooks b = new TombolaBooks();
            Check.due("the first value", b.set(setting, GREATEST[setting]), first[setting]);
            Check.due("the greatest", b.set(setting, LEAST[setting]), GREATEST[setting]);
            Check.due("the least", b.set(setting, 1), LEAST[setting]);
        }
    }

    @Sentence("Throws `IndexOutOfBoundsException` if there is no such setting")
    static void noSuchSetting() {
        Bounds.outside(0, 2, Bounds.PLACE, TombolaBooks::new, (b, setting) -> b.set(setting, 1));
        Bounds.outside(0, 2, Bounds.PLACE, TombolaBooks::new, (b, setting) -> b.set(setting, -1));
    }

    @Sentence("Throws `IllegalArgumentException` if value is out of range")
    static void valueOutOfRange() {
        for (int setting = 0; setting < 3; setting++) {
            int which = setting;
            Bounds.outside(LEAST[setting], GREATEST[setting], Bounds.VALUE, TombolaBooks::new,
                    (b, value) -> b.set(which, value));
        }
    }
}
