/** Promise 12. */
@Head("Promise 12: clearBuffer")
final class Promise12ClearBuffer {
    private Promise12ClearBuffer() {
    }

    @Sentence("Clears the buffer.")
    static void theBufferIsCleared() {
        TombolaBooks b = Play.rich().books;
        long before = b.digest();
        b.append('x');
        b.clearBuffer();
        Check.due("the digest", b.digest(), before);
        Check.due("firstError", b.firstError(), 0);
        Check.due("append", b.append('x'), 1);
        TombolaBooks full = new Play().type("x".repeat(60)).books;
        full.clearBuffer();
        Check.due("append behind a full buffer", full.append('d'), 1);
        Check.due("nothing is left of it", full.firstError(), 1);
    }

    @Sentence("Returns the length that it had.")
    static void returnsTheLength() {
        for (int length = 0; length <= 60; length++) {
            TombolaBooks b = new Play().type("x".repeat(length)).books;
            Check.due("clearBuffer", b.clearBuffer(), length);
            Check.due("clearBuffer again", b.clearBuffer(), 0);
        }
    }
}
