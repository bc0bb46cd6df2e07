/** Counts the answers that are not as due, and ends the program with 1 if there was one. */
final class Checks {
    private int wrong;

    void due(String call, long got, long want) {
        if (got != want) {
            wrong++;
            System.out.println(call + " answered " + got + ", due is " + want);
        }
    }

    void due(String call, boolean got, boolean want) {
        due(call, got ? 1 : 0, want ? 1 : 0);
    }

    /** No such byte: that exception and no other, and not the class above it. */
    void noByte(KnowDisk x, int page, int i) {
        String call = "at(" + page + ", " + i + ")";
        try {
            wrong++;
            System.out.println(call + " answered " + x.at(page, i) + ", due is an exception");
        } catch (RuntimeException e) {
            wrong--;
            due(call + " throws " + e.getClass(), e.getClass() == ArrayIndexOutOfBoundsException.class, true);
        }
    }

    /** All 32 bytes of a page are these. */
    void bytes(String where, KnowDisk x, int page, byte[] want) {
        for (int i = 0; i < 32; i++) {
            due(where + ": at(" + page + ", " + i + ")", x.at(page, i), want[i]);
        }
    }

    /** A page is there with just this kind, source, value and transaction, and a right sum. */
    void page(String where, KnowDisk x, int page, int kind, int source, long value, int transaction) {
        bytes(where, x, page, Bytes.page(kind, page, source, value, transaction));
    }

    void end() {
        if (wrong != 0) {
            System.out.println(wrong + " answers are not as due");
            System.exit(1);
        }
    }
}
