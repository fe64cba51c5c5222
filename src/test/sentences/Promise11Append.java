/** Promise 11. */
@Head("Promise 11: append")
final class Promise11Append {
    private Promise11Append() {
    }

    private static TombolaBooks full() {
        return new Play().type("~".repeat(60)).books;
    }

    /** By the digest, in which the buffer's characters are the last values. */
    @Sentence("Appends a character to the buffer.")
    static void aCharacterIsAppended() {
        TombolaBooks b = new TombolaBooks();
        long empty = b.digest();
        b.append('p');
        Check.due("one", b.digest(), (empty + 1) * 31 + 'p');
        b.append('~');
        Check.due("two", b.digest(), ((empty + 2) * 31 + 'p') * 31 + '~');
        b.clearBuffer();
        b.append('d');
        b.append('7');
        b.run();
        Check.due("in their order", b.count(8), 7);
    }

    @Sentence("`code`: the character code, 33 to 126")
    static void code() {
        Bounds.inside(33, 126, TombolaBooks::new, TombolaBooks::append, code -> 1);
        for (int code = 33; code <= 126; code++) {
            TombolaBooks b = new TombolaBooks();
            long empty = b.digest();
            b.append(code);
            Check.due("the digest with " + code, b.digest(), (empty + 1) * 31 + code);
        }
    }

    @Sentence("Returns the new length of the buffer.")
    static void returnsTheNewLength() {
        TombolaBooks b = new TombolaBooks();
        for (int length = 1; length <= 60; length++) {
            Check.due("append", b.append(33 + length), length);
        }
        b.clearBuffer();
        Check.due("behind clearBuffer", b.append('d'), 1);
        b.append('1');
        b.run();
        Check.due("behind run", b.append('d'), 1);
    }

    @Sentence("Throws `IllegalArgumentException` if code is not 33 to 126")
    static void codeOutOfRange() {
        Bounds.outside(33, 126, Bounds.VALUE, TombolaBooks::new, TombolaBooks::append);
        Bounds.outside(33, 126, Bounds.VALUE, Promise11Append::full, TombolaBooks::append);
        for (int code : new int[] {0, 9, 10, 13, 128, 255, 256 + 'd', 65536 + 'd', -'d'}) {
            Bounds.thrown("append(" + code + ")", Bounds.VALUE, new TombolaBooks(), b -> b.append(code));
        }
    }

    @Sentence("Throws `IllegalStateException` if the buffer has 60 characters")
    static void sixtyCharacters() {
        TombolaBooks b = full();
        Bounds.thrown("the 61st", Bounds.STATE, b, each -> each.append(33));
        Bounds.thrown("the 61st once more", Bounds.STATE, b, each -> each.append(126));
        Check.due("the length stays", b.clearBuffer(), 60);
        Check.due("the 60th", new Play().type("~".repeat(59)).books.append('~'), 60);
    }
}
