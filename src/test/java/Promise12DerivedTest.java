/** Promise 12: derived pages are made again where they are not right. */
final class Promise12DerivedTest {
    private static final Checks CHECKS = new Checks();

    public static void main(String[] args) {
        madeAgain();
        sourceThatWent();
        refused();
        thirtyPages();
        sourceIsItself();
        everyByte();
        CHECKS.end();
    }

    private static void madeAgain() {
        KnowDisk x = new KnowDisk(20);
        x.page(1, -1, 5);
        x.page(3, 0, 0);
        CHECKS.due("right", x.derived(1), 0);
        x.page(2, 0, -6);
        CHECKS.due("its source is another", x.derived(1), 1);
        CHECKS.page("made again", x, 1, 3, 0, Bytes.derived(-6), 0);
        CHECKS.due("right again", x.derived(1), 0);
        x.commit(1);
        x.sync();
        x.poke(1, 2, 1);
        CHECKS.due("its sum is wrong", x.wrong(1), 1);
        CHECKS.due("its sum is wrong", x.derived(1), 1);
        CHECKS.due("no more", x.wrong(0), 0);
        CHECKS.due("a page and a head", x.commit(2), 2);
        CHECKS.page("made again", x, 1, 3, 0, Bytes.derived(-6), 2);
        x.sync();
        x.poke(0, 15, 1);
        CHECKS.due("its source was poked", x.derived(1), 1);
        CHECKS.page("of what the bytes say", x, 1, 3, 0, Bytes.derived(-6 ^ 1), 0);
    }

    private static void sourceThatWent() {
        KnowDisk x = new KnowDisk(20);
        x.page(1, -1, 5);
        x.page(3, 0, 0);
        x.page(1, -1, 9);
        x.commit(1);
        x.sync();
        x.page(0, 0, 0);
        CHECKS.due("no source", x.derived(1), 0);
        x.poke(1, 8, 1);
        CHECKS.due("no source, and its sum is wrong", x.derived(1), 0);
        CHECKS.due("it stays wrong", x.wrong(1), 1);
        x.poke(1, 8, 1);
        CHECKS.due("a new page 0 of the same value", x.page(2, -1, 5), 0);
        CHECKS.due("right", x.derived(1), 0);
        x.page(0, 0, 0);
        CHECKS.due("page 0 is a derived one", x.page(3, 2, 0), 0);
        CHECKS.due("a page all the same", x.derived(1), 1);
        CHECKS.page("twice derived", x, 1, 3, 0, Bytes.derived(Bytes.derived(9)), 0);
    }

    private static void refused() {
        KnowDisk x = new KnowDisk(0);
        x.page(1, -1, 5);
        x.page(3, 0, 0);
        x.page(2, -1, 5);
        int[] none = {-1, 0, 2, 3, 29, 30, 255, Integer.MAX_VALUE, Integer.MIN_VALUE};
        for (int page : none) {
            CHECKS.due("derived(" + page + ")", x.derived(page), -1);
        }
        x.full(true);
        CHECKS.due("right on a full disk", x.derived(1), 0);
        x.full(false);
        x.page(1, 0, 6);
        x.full(true);
        CHECKS.due("not right on a full disk", x.derived(1), -4);
        CHECKS.due("no page on a full disk", x.derived(7), -1);
        x.full(false);
        while (x.page(1, -1, 1) >= 0) {
            CHECKS.due("laid", x.wrong(0), 0);
        }
        CHECKS.due("no free sector", x.derived(1), -4);
        CHECKS.page("as it was", x, 1, 3, 0, Bytes.derived(5), 0);
        x.page(0, 2, 0);
        CHECKS.due("a free sector", x.derived(1), 1);
        x.cut(0, 0);
        CHECKS.due("not running", x.derived(1), -3);
        CHECKS.due("not running", x.derived(-1), -3);
    }

    /** By its bytes a page can be derived from itself: it is a page, so it is laid anew. */
    private static void sourceIsItself() {
        KnowDisk x = new KnowDisk(4);
        x.page(1, -1, 5);
        x.page(3, 0, 0);
        x.commit(1);
        x.sync();
        x.poke(1, 6, 1);
        CHECKS.due("derived(1)", x.derived(1), 1);
        CHECKS.page("of itself", x, 1, 3, 1, Bytes.derived(Bytes.derived(5)), 0);
        x.commit(2);
        x.sync();
        x.poke(1, 6, 1 ^ 30);
        CHECKS.due("page 30 is no page", x.derived(1), 0);
        x.poke(1, 6, 30 ^ 255);
        CHECKS.due("255 is no page", x.derived(1), 0);
        x.poke(1, 6, 255 ^ 29);
        CHECKS.due("page 29 is not there", x.derived(1), 0);
    }

    /** "whose sector's sum is not right": whichever byte it is, if its kind and source are there. */
    private static void everyByte() {
        for (int i = 0; i < 32; i++) {
            KnowDisk x = new KnowDisk(0);
            x.page(1, -1, 5);
            x.page(3, 0, 0);
            x.commit(1);
            x.sync();
            x.poke(1, i, 4);
            int due = i == 4 ? -1 : i == 6 ? 0 : 1;
            CHECKS.due("byte " + i + " is poked", x.derived(1), due);
            if (due == 1) {
                CHECKS.page("byte " + i, x, 1, 3, 0, Bytes.derived(5), 0);
                CHECKS.due("it is right", x.derived(1), 0);
                CHECKS.due("commit(2)", x.commit(2), 2);
            }
        }
    }

    /** -4 as for page(), which says -4 "when there are 30 pages". */
    private static void thirtyPages() {
        KnowDisk x = new KnowDisk(56);
        x.page(1, -1, 5);
        x.page(3, 0, 0);
        x.page(1, 0, 6);
        for (int page = 2; page < 30; page++) {
            x.page(1, -1, 0);
        }
        CHECKS.due("30 pages", x.derived(1), -4);
        x.page(0, 29, 0);
        CHECKS.due("29 pages", x.derived(1), 1);
    }
}
