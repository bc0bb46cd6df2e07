/** Promise 2: pages are laid, laid anew, derived, and go; what is refused, and in what order. */
final class Promise02PageTest {
    private static final Checks CHECKS = new Checks();

    public static void main(String[] args) {
        laying();
        leastNumbers();
        leastSectors();
        sectorsInUse();
        neverForZero();
        refused();
        thirtyPages();
        CHECKS.end();
    }

    /**
     * "else page of, which gets that kind and value anew", "(v is not looked at)", "(also if others
     * are derived from it)".
     */
    private static void laying() {
        KnowDisk x = new KnowDisk(30);
        CHECKS.due("page(1, -1, long)", x.page(1, -1, 0x8123456789ABCDEFL), 0);
        CHECKS.page("rows", x, 0, 1, 255, 0x8123456789ABCDEFL, 0);
        CHECKS.due("page(2, -1, -1)", x.page(2, -1, -1L), 1);
        CHECKS.page("orders", x, 1, 2, 255, -1L, 0);
        CHECKS.due("page(3, 0, 7)", x.page(3, 0, 7), 2);
        CHECKS.page("derived of rows", x, 2, 3, 0, Bytes.derived(0x8123456789ABCDEFL), 0);
        CHECKS.due("page(3, 1, 7)", x.page(3, 1, 7), 3);
        CHECKS.page("derived of orders", x, 3, 3, 1, Bytes.derived(-1L), 0);
        CHECKS.due("page(2, 0, min)", x.page(2, 0, Long.MIN_VALUE), 0);
        CHECKS.page("laid anew", x, 0, 2, 255, Long.MIN_VALUE, 0);
        CHECKS.page("its derived one stays", x, 2, 3, 0, Bytes.derived(0x8123456789ABCDEFL), 0);
        CHECKS.due("page(1, 3, 5)", x.page(1, 3, 5), 3);
        CHECKS.page("derived no more", x, 3, 1, 255, 5, 0);
        CHECKS.due("page(3, 3, 0)", x.page(3, 3, 0), 4);
        CHECKS.page("of the one that was derived", x, 4, 3, 3, Bytes.derived(5), 0);
        CHECKS.due("page(0, 0, 1)", x.page(0, 0, 1), 0);
        CHECKS.noByte(x, 0, 4);
        CHECKS.page("its source went", x, 2, 3, 0, Bytes.derived(0x8123456789ABCDEFL), 0);
    }

    /** "a new one (the least number that is free)". */
    private static void leastNumbers() {
        KnowDisk x = new KnowDisk(30);
        for (int page = 0; page < 6; page++) {
            CHECKS.due("page(1, -1, 0)", x.page(1, -1, 0), page);
        }
        x.page(0, 4, 0);
        x.page(0, 1, 0);
        x.page(0, 2, 0);
        CHECKS.due("the least number", x.page(2, -1, 0), 1);
        CHECKS.due("the least number, derived", x.page(3, 5, 0), 2);
        CHECKS.due("the least number again", x.page(1, -1, 0), 4);
        CHECKS.due("then the next", x.page(1, -1, 0), 6);
    }

    private static void leastSectors() {
        KnowDisk x = new KnowDisk(2);
        x.page(1, -1, 1);
        x.page(1, -1, 2);
        x.page(1, 0, 3);
        x.page(1, -1, 4);
        x.page(1, 1, 5);
        x.commit(1);
        x.sync();
        CHECKS.due("0 was laid beside itself", Bytes.sectorOf(x, 0), 4);
        CHECKS.due("2 got the sector that 0 left", Bytes.sectorOf(x, 2), 2);
        CHECKS.due("1 got the next", Bytes.sectorOf(x, 1), 5);
        x.page(0, 0, 0);
        x.page(1, -1, 6);
        x.commit(2);
        x.sync();
        CHECKS.due("3 was free, 4 is of the latest one", Bytes.sectorOf(x, 0), 3);
        x.page(1, 0, 7);
        x.commit(3);
        x.sync();
        CHECKS.due("4 is free behind the sync", Bytes.sectorOf(x, 0), 4);
    }

    private static void sectorsInUse() {
        KnowDisk x = new KnowDisk(0);
        x.page(1, -1, 1);
        x.commit(1);
        x.page(1, 0, 2);
        x.commit(2);
        x.page(1, 0, 3);
        x.commit(3);
        x.page(1, 0, 4);
        CHECKS.due("writes wait to 2, 3, 4", x.page(1, 0, 5), 0);
        x.page(1, 0, 6);
        x.commit(4);
        CHECKS.due("one sector is left of 2 .. 7", x.page(1, 0, 7), 0);
        CHECKS.due("one was left, and 0 has left one", x.page(1, 0, 8), 0);
        x.sync();
        x.backup(4);
        x.page(0, 0, 0);
        x.commit(5);
        x.sync();
        for (int page = 0; page < 5; page++) {
            CHECKS.due("page(1, -1, 0)", x.page(1, -1, 0), page);
        }
        CHECKS.due("the sector that is kept", x.page(1, -1, 0), -4);
        CHECKS.due("drop(4)", x.drop(4), 1);
        CHECKS.due("it is free", x.page(1, -1, 0), 5);
        CHECKS.due("none is free", x.page(1, -1, 0), -4);
        CHECKS.due("none is free to lay anew", x.page(2, 3, 0), -4);
        CHECKS.due("none is free to derive", x.page(3, 3, 0), -4);
        CHECKS.due("one goes", x.page(0, 3, 0), 3);
        CHECKS.due("one is free", x.page(3, 2, 0), 3);
    }

    /** "-3; -2 when kind is none of these; -1 when there is no such page (..); -4 .. (for 0 never)". */
    private static void refused() {
        KnowDisk x = new KnowDisk(30);
        x.page(1, -1, 1);
        x.page(3, 0, 0);
        x.full(true);
        int[] none = {-2, 2, 29, 30, 31, 64, Integer.MAX_VALUE, Integer.MIN_VALUE};
        for (int of : none) {
            CHECKS.due("page(4, " + of + ")", x.page(4, of, 0), -2);
            CHECKS.due("page(-1, " + of + ")", x.page(-1, of, 0), -2);
            for (int kind = 0; kind < 4; kind++) {
                CHECKS.due("page(" + kind + ", " + of + ")", x.page(kind, of, 0), -1);
            }
        }
        CHECKS.due("page(9, 0)", x.page(Integer.MAX_VALUE, 0, 0), -2);
        CHECKS.due("page(min, 0)", x.page(Integer.MIN_VALUE, 0, 0), -2);
        CHECKS.due("page(0, -1)", x.page(0, -1, 0), -1);
        CHECKS.due("page(3, -1)", x.page(3, -1, 0), -1);
        CHECKS.due("page(3, 1), derived itself", x.page(3, 1, 0), -1);
        CHECKS.due("page(1, -1), full", x.page(1, -1, 0), -4);
        CHECKS.due("page(2, 0), full", x.page(2, 0, 0), -4);
        CHECKS.due("page(3, 0), full", x.page(3, 0, 0), -4);
        CHECKS.due("page(0, 1), full", x.page(0, 1, 0), 1);
        CHECKS.page("as it was", x, 0, 1, 255, 1, 0);
        x.cut(0, 0);
        CHECKS.due("page(4), not running", x.page(4, 0, 0), -3);
        CHECKS.due("page(1, -1), not running", x.page(1, -1, 0), -3);
        CHECKS.due("page(0, 0), not running", x.page(0, 0, 0), -3);
    }

    /** "(for 0 never)": a page goes on a disk that has no free sector, is said to be full, and has 30 pages. */
    private static void neverForZero() {
        KnowDisk x = new KnowDisk(24);
        for (int page = 0; page < 30; page++) {
            CHECKS.due("page(1, -1, 0)", x.page(1, -1, page), page);
        }
        x.commit(1);
        x.full(true);
        CHECKS.due("none is laid", x.page(1, -1, 0), -4);
        for (int page = 29; page >= 0; page--) {
            CHECKS.due("page(0, " + page + ", 0)", x.page(0, page, 0), page);
            CHECKS.due("it has gone", x.page(0, page, 0), -1);
        }
        x.full(false);
        CHECKS.due("no sector is free before the sync", x.page(1, -1, 0), -4);
        CHECKS.due("all went", x.commit(2), 1);
        x.sync();
        CHECKS.due("a new one", x.page(1, -1, 0), 0);
    }

    /** The document says -4 "when there are 30 pages", and excepts the kind 0 alone. */
    private static void thirtyPages() {
        KnowDisk x = new KnowDisk(56);
        for (int page = 0; page < 30; page++) {
            CHECKS.due("page(1, -1, 0)", x.page(1, -1, page), page);
        }
        CHECKS.due("a 31st", x.page(1, -1, 0), -4);
        CHECKS.due("a 31st, derived", x.page(3, 7, 0), -4);
        CHECKS.due("anew with 30 pages", x.page(2, 7, 0), -4);
        CHECKS.due("page(1, 30) with 30 pages", x.page(1, 30, 0), -1);
        CHECKS.page("as it was", x, 7, 1, 255, 7, 0);
        CHECKS.due("page 29 goes", x.page(0, 29, 0), 29);
        CHECKS.due("anew with 29 pages", x.page(2, 7, 0), 7);
        CHECKS.due("a 30th again", x.page(3, 7, 0), 29);
        CHECKS.due("commit(1)", x.commit(1), 31);
    }
}
