/** What is said ahead of the terms. */
@Head("What it is")
final class WhatItIs {
    private WhatItIs() {
    }

    @Sentence("An object is used for at most 512 calls after it has been made;")
    static void the512thCall() {
        TombolaBooks b = new TombolaBooks();
        for (int call = 1; call <= 512; call++) {
            Check.due("the call " + call, b.seed(call % 7), call == 1 ? 1 : (call - 1) % 7);
        }
        TombolaBooks late = new TombolaBooks();
        for (int call = 1; call <= 508; call++) {
            late.end();
        }
        Check.due("a put as the 509th call", late.put(5, 2, 90), 0);
        Check.due("evenings, as the 510th", late.count(12), 508);
        Check.due("undo as the 511th", late.undo(), 5);
        Check.dueThrow("a take as the 512th", Bounds.STATE, () -> late.take(90));
    }
}
