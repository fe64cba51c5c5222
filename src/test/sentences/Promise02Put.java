/** Promise 2. */
@Head("Promise 2: put")
final class Promise02Put {
    private Promise02Put() {
    }

    @Sentence("Puts a number into a row.")
    static void aNumberIsPut() {
        TombolaBooks b = new TombolaBooks();
        b.put(0, 0, 1);
        b.put(5, 2, 90);
        Check.due("the first place", b.at(0, 0, 0), 1);
        Check.due("the last place", b.at(5, 2, 8), 90);
        Check.due("the card", b.numberOf(90, 0), 5);
        Check.due("the row", b.numberOf(90, 1), 2);
        Check.due("numbers", b.count(0), 2);
    }

    @Sentence("Puts a number into a row.")
    static void alsoInTheMiddleOfAnEvening() {
        Play play = new Play().bought(1).balls(89, 90);
        Check.due("a number that was drawn", play.books.put(5, 0, 89), 0);
        Check.due("drawn of the card", play.books.cardOf(5, 3), 1);
        Check.due("a number of the drum", play.books.put(5, 0, 77), 0);
    }

    @Sentence("Undoable, also if it cannot stand there.")
    static void undoable() {
        Probe.undoable("a put", () -> Play.rich().books, b -> Check.due("8", b.put(5, 2, 8), 0));
        Probe.undoable("reason 1", () -> Play.rich().books, b -> Check.due("7", b.put(5, 0, 7), 1));
        Probe.undoable("reason 2", () -> Play.rich().books, b -> Check.due("8", b.put(5, 1, 8), 2));
        Probe.undoable("reason 3", () -> Play.rich().books, b -> Check.due("53", b.put(0, 0, 53), 3));
        Probe.undoable("reason 4", () -> Play.rich().books, b -> Check.due("8", b.put(5, 0, 8), 4));
    }

    @Sentence("`card`: 0 to 5")
    static void card() {
        Bounds.inside(0, 5, TombolaBooks::new, (b, card) -> b.put(card, 1, 45) + b.at(card, 1, 4), card -> 45);
    }

    @Sentence("`row`: 0 to 2")
    static void row() {
        Bounds.inside(0, 2, TombolaBooks::new, (b, row) -> b.put(4, row, 45) + b.at(4, row, 4), row -> 45);
    }

    @Sentence("`number`: 1 to 90")
    static void number() {
        Bounds.inside(1, 90, TombolaBooks::new, (b, number) -> b.put(5, 2, number) + b.numberOf(number, 1),
                number -> 2);
    }

    @Sentence("Returns 0 if it stands there then;")
    static void returns0() {
        TombolaBooks b = new TombolaBooks();
        Check.due("into an empty row", b.put(0, 0, 1), 0);
        Check.due("beside one", b.put(0, 0, 11), 0);
        Check.due("as the third", b.put(0, 0, 21), 0);
        Check.due("as the fourth", b.put(0, 0, 31), 0);
        Check.due("as the fifth", b.put(0, 0, 90), 0);
        Check.due("numbers", b.cardOf(0, 0), 5);
        b.take(90);
        Check.due("in place of one that was taken out", b.put(0, 0, 89), 0);
    }

    @Sentence("otherwise the reason.")
    static void returnsTheReason() {
        TombolaBooks b = new Play().wholeCards(1).books;
        Check.due("it stands in the book", b.put(5, 0, 1), 1);
        Check.due("another number in the column", b.put(0, 0, 19), 2);
        Check.due("5 numbers in the row", b.put(0, 0, 55), 3);
        b.put(5, 1, 55);
        Check.due("55 stands below it", b.put(5, 0, 56), 4);
        Check.due("55 stands above it", b.put(5, 2, 54), 4);
        Check.due("none of them is put", b.count(0), 16);
        Check.due("the place stays", b.at(0, 0, 1), 12);
        Check.due("the place stays empty", b.at(5, 0, 5), 0);
    }

    @Sentence("Throws `IndexOutOfBoundsException` if there is no such card or row")
    static void noSuchCardOrRow() {
        Bounds.outside(0, 5, Bounds.PLACE, TombolaBooks::new, (b, card) -> b.put(card, 0, 45));
        Bounds.outside(0, 2, Bounds.PLACE, TombolaBooks::new, (b, row) -> b.put(0, row, 45));
        Bounds.outside(0, 5, Bounds.PLACE, TombolaBooks::new, (b, card) -> b.put(card, 0, 91));
        Bounds.outside(0, 2, Bounds.PLACE, TombolaBooks::new, (b, row) -> b.put(0, row, 0));
    }

    @Sentence("Throws `IllegalArgumentException` if number is out of range")
    static void numberOutOfRange() {
        Bounds.outside(1, 90, Bounds.VALUE, TombolaBooks::new, (b, number) -> b.put(0, 0, number));
        Bounds.outside(1, 90, Bounds.VALUE, () -> new Play().bought(1).books, (b, number) -> b.put(0, 0, number));
    }
}
