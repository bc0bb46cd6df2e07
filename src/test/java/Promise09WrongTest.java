/** Promise 9: pages whose sums are not right. */
final class Promise09WrongTest {
    private static final Checks CHECKS = new Checks();

    public static void main(String[] args) {
        allPages();
        everyByte();
        KnowDisk x = new KnowDisk(20);
        wrong("new", x, 0, -1, -1);
        for (int page = 0; page < 5; page++) {
            x.page(1, -1, page);
        }
        wrong("laid", x, 0, -1, -1);
        x.commit(1);
        wrong("waiting", x, 0, -1, -1);
        x.sync();
        wrong("on the disk", x, 0, -1, -1);
        x.poke(4, 31, 1);
        wrong("page 4", x, 1, 4, 6);
        x.poke(1, 0, 1);
        wrong("page 1 too", x, 2, 1, 3);
        x.poke(3, 8, 128);
        wrong("page 3 too", x, 3, 1, 3);
        x.page(1, 1, 7);
        wrong("page 1 is laid anew", x, 2, 3, 5);
        x.page(0, 3, 0);
        wrong("page 3 has gone", x, 1, 4, 6);
        x.page(1, -1, 8);
        x.commit(2);
        x.sync();
        x.poke(1, 9, 1);
        wrong("page 1 in its new sector", x, 2, 1, 7);
        int[] others = {-1, 3, Integer.MAX_VALUE, Integer.MIN_VALUE};
        for (int what : others) {
            CHECKS.due("wrong(" + what + ")", x.wrong(what), -2);
        }
        x.cut(0, 0);
        for (int what = -1; what < 4; what++) {
            CHECKS.due("not running", x.wrong(what), -3);
        }
        CHECKS.end();
    }

    /** All 30 pages are wrong, one less at a time. */
    private static void allPages() {
        KnowDisk x = new KnowDisk(56);
        for (int page = 0; page < 30; page++) {
            x.page(1, -1, page);
        }
        x.commit(1);
        x.sync();
        for (int page = 0; page < 30; page++) {
            x.poke(page, page, 1);
        }
        for (int page = 0; page < 30; page++) {
            wrong("from " + page + " on", x, 30 - page, page, page + 2);
            x.poke(page, page, 1);
        }
        wrong("none", x, 0, -1, -1);
    }

    /** The sum itself, and each of the bytes that it is of. */
    private static void everyByte() {
        KnowDisk x = new KnowDisk(0);
        x.page(1, -1, 1);
        x.page(2, -1, 2);
        x.commit(1);
        x.sync();
        for (int i = 0; i < 32; i++) {
            for (int bit = 1; bit < 256; bit += 127) {
                x.poke(1, i, bit);
                CHECKS.due("byte " + i + ", bits " + bit, x.wrong(2), 3);
                x.poke(1, i, bit);
            }
        }
        wrong("none", x, 0, -1, -1);
    }

    private static void wrong(String where, KnowDisk x, int count, int page, int sector) {
        CHECKS.due(where + ": wrong(0)", x.wrong(0), count);
        CHECKS.due(where + ": wrong(1)", x.wrong(1), page);
        CHECKS.due(where + ": wrong(2)", x.wrong(2), sector);
    }
}
