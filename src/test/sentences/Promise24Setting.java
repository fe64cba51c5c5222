/** Promise 24. */
@Head("Promise 24: setting")
final class Promise24Setting {
    private Promise24Setting() {
    }

    @Sentence("Returns a setting.")
    static void ofThree() {
        TombolaBooks b = new Play().set(0, 98).set(1, 97).set(2, 1).books;
        Check.due("the price", b.setting(0), 98);
        Check.due("slips", b.setting(1), 97);
        Check.due("the last ball", b.setting(2), 1);
        b.end();
        Check.due("the price in the next evening", b.setting(0), 98);
    }

    @Sentence("`setting`: 0 to 2")
    static void setting() {
        Bounds.inside(0, 2, TombolaBooks::new, TombolaBooks::setting, setting -> setting == 0 ? 10 : 0);
    }

    @Sentence("Returns its value.")
    static void returnsItsValue() {
        int[][] values = {{1, 2, 98, 99}, {0, 1, 98, 99}, {0, 1, 1, 0}};
        TombolaBooks b = new TombolaBooks();
        for (int setting = 0; setting < 3; setting++) {
            for (int value : values[setting]) {
                b.set(setting, value);
                Check.due("the value", b.setting(setting), value);
            }
        }
    }

    @Sentence("Throws `IndexOutOfBoundsException` if there is no such setting")
    static void noSuchSetting() {
        Bounds.outside(0, 2, Bounds.PLACE, TombolaBooks::new, TombolaBooks::setting);
    }
}
