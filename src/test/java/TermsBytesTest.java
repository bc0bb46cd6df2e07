/** Terms: what stands in a page's sector, with bytes written out and not reckoned. */
final class TermsBytesTest {
    private static final Checks CHECKS = new Checks();

    public static void main(String[] args) {
        writtenOut();
        pageNumbers();
        turnedLeft();
        asOfTheTime();
        laidOverOldBytes();
        CHECKS.end();
    }

    private static String hex(KnowDisk x, int page) {
        StringBuilder b = new StringBuilder();
        for (byte one : Bytes.of(x, page)) {
            b.append(String.format("%02x", one));
        }
        return b.toString();
    }

    private static void is(String where, KnowDisk x, int page, String want) {
        String got = hex(x, page);
        CHECKS.due(where + ": page " + page + " is " + got + ", not " + want, got.equals(want), true);
    }

    /** "numbers in them have their highest byte first", the SUM, "(255 for none)", "0s behind". */
    private static void writtenOut() {
        KnowDisk x = new KnowDisk(4);
        x.page(1, -1, 5);
        is("rows", x, 0, "c18781920100ff00000000000000000500000000000000000000000000000000");
        x.page(2, -1, -7);
        is("orders", x, 1, "565950400201ff00fffffffffffffff900000000000000000000000000000000");
        x = new KnowDisk(4);
        x.page(2, -1, Long.MIN_VALUE);
        x.page(3, 0, 0);
        x.commit(1000000);
        is("committed", x, 0, "128d6d550200ff008000000000000000000f4240000000000000000000000000");
        is("derived", x, 1, "9e3d106b0301000000000005deece76d000f4240000000000000000000000000");
        x.sync();
        is("on the disk", x, 0, "128d6d550200ff008000000000000000000f4240000000000000000000000000");
        x.cut(0, 0);
        x.start();
        is("started", x, 1, "9e3d106b0301000000000005deece76d000f4240000000000000000000000000");
    }

    /** "PAGES are numbered 0 .. 29": the last one is a page like others, 30 is none. */
    private static void pageNumbers() {
        KnowDisk x = new KnowDisk(56);
        for (int page = 0; page < 28; page++) {
            x.page(1, -1, page);
        }
        CHECKS.due("page 28 is derived", x.page(3, 27, 0), 28);
        CHECKS.due("page 29", x.page(1, -1, 0), 29);
        is("the last", x, 29, "357a76c8011dff00000000000000000000000000000000000000000000000000");
        x.page(0, 28, 0);
        CHECKS.due("derived of page 29", x.page(3, 29, 0), 28);
        x.page(0, 0, 0);
        x.page(1, 29, 8);
        CHECKS.due("derived(28) looks at page 29", x.derived(28), 1);
        x.commit(1);
        x.sync();
        x.cut(0, 0);
        CHECKS.due("start()", x.start(), 1);
        CHECKS.page("page 29, started", x, 29, 1, 255, 8, 1);
        CHECKS.page("page 28, started", x, 28, 3, 29, Bytes.derived(8), 1);
        CHECKS.due("poke(29, 31, 1)", x.poke(29, 31, 1), 1);
        CHECKS.due("wrong(1)", x.wrong(1), 29);
        CHECKS.noByte(x, 30, 0);
        CHECKS.due("poke(30, 31, 1)", x.poke(30, 31, 1), -1);
        CHECKS.due("derived(30)", x.derived(30), -1);
        CHECKS.due("page(0, 30, 0)", x.page(0, 30, 0), -1);
        CHECKS.due("page(0, 29, 0)", x.page(0, 29, 0), 29);
        CHECKS.noByte(x, 29, 0);
    }

    /** "turned left by nine bits, xor 0x5DEECE66D": what goes out on the left comes in on the right. */
    private static void turnedLeft() {
        long[][] pairs = {
            {0L, 0x5DEECE66DL},
            {-1L, 0xFFFFFFFA21131992L},
            {1L, 0x5DEECE46DL},
            {Long.MIN_VALUE, 0x5DEECE76DL},
            {Long.MAX_VALUE, 0xFFFFFFFA21131892L},
            {1L << 54, 0x80000005DEECE66DL},
            {1L << 55, 0x5DEECE66CL},
            {0xFF80000000000000L, 0x5DEECE792L},
        };
        for (long[] pair : pairs) {
            KnowDisk x = new KnowDisk(4);
            x.page(1, -1, pair[0]);
            x.page(3, 0, 0);
            CHECKS.page("derived of " + pair[0], x, 1, 3, 0, pair[1], 0);
        }
    }

    /** "as of the time when it was laid": neither a source laid anew nor one that goes changes it. */
    private static void asOfTheTime() {
        KnowDisk x = new KnowDisk(4);
        x.page(1, -1, 1L);
        x.page(3, 0, 0);
        x.page(1, 0, 2L);
        CHECKS.page("its source was laid anew", x, 1, 3, 0, 0x5DEECE46DL, 0);
        x.commit(1);
        CHECKS.page("committed", x, 1, 3, 0, 0x5DEECE46DL, 1);
        x.page(0, 0, 0);
        CHECKS.page("its source went", x, 1, 3, 0, 0x5DEECE46DL, 1);
        x.page(2, -1, 3L);
        x.commit(2);
        CHECKS.page("another page has its source's number", x, 1, 3, 0, 0x5DEECE46DL, 1);
    }

    /** "0s behind", and "(0 till it is committed)", also where the sector had other bytes before. */
    private static void laidOverOldBytes() {
        KnowDisk x = new KnowDisk(0);
        x.page(1, -1, -1L);
        x.commit(999999);
        x.sync();
        for (int i = 0; i < 32; i++) {
            x.poke(0, i, 0xA5);
        }
        x.page(0, 0, 0);
        x.commit(1000000);
        x.sync();
        x.page(1, -1, 5);
        is("over old bytes", x, 0, "c18781920100ff00000000000000000500000000000000000000000000000000");
    }
}
