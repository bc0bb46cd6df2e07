/** Promise 8: bits on the disk change; what is refused, and in what order. */
final class Promise08PokeTest {
    private static final Checks CHECKS = new Checks();

    public static void main(String[] args) {
        everyByte();
        refused();
        behindACut();
        toldByBytes();
        CHECKS.end();
    }

    /** "A bit pattern (1 .. 255) is laid over byte i (0 .. 31)", the edges with them. */
    private static void everyByte() {
        KnowDisk x = new KnowDisk(20);
        x.page(1, -1, 0x0123456789ABCDEFL);
        x.commit(77777);
        x.sync();
        byte[] was = Bytes.of(x, 0);
        for (int i = 0; i < 32; i++) {
            CHECKS.due("poke(0, " + i + ", 255)", x.poke(0, i, 255), ~was[i] & 255);
            CHECKS.due("at(0, " + i + ")", x.at(0, i), (byte) ~was[i]);
            CHECKS.due("wrong(0)", x.wrong(0), 1);
            CHECKS.due("poke(0, " + i + ", 254)", x.poke(0, i, 254), was[i] & 255 ^ 1);
            CHECKS.due("poke(0, " + i + ", 1)", x.poke(0, i, 1), was[i] & 255);
            CHECKS.due("wrong(0)", x.wrong(0), 0);
        }
        x.poke(0, 12, 4);
        x.cut(0, 0);
        CHECKS.due("it is on the disk", x.start(), 0);
    }

    /** Behind a cut and a start no write waits, and no page was laid. */
    private static void behindACut() {
        KnowDisk x = new KnowDisk(4);
        x.page(1, -1, 1);
        x.commit(1);
        CHECKS.due("it waits", x.poke(0, 20, 1), -3);
        x.cut(2, 0);
        x.start();
        CHECKS.due("it has reached the disk", x.poke(0, 20, 1), 1);
        CHECKS.due("by xor", x.poke(0, 20, 3), 2);
        x.page(2, -1, 2);
        x.commit(2);
        CHECKS.due("page 0 is in the state of 2, but no write of it waits", x.poke(0, 20, 2), 0);
        CHECKS.due("page 1 waits", x.poke(1, 20, 2), -3);
        x.page(1, 0, 3);
        CHECKS.due("page 0 was laid since", x.poke(0, 20, 2), -3);
    }

    /** "-3; -1; -2; -3", in this order. */
    private static void refused() {
        KnowDisk x = new KnowDisk(20);
        x.page(1, -1, 1);
        CHECKS.due("laid", x.poke(0, 0, 1), -3);
        CHECKS.due("laid, out of range", x.poke(0, 32, 1), -2);
        x.commit(1);
        CHECKS.due("waits", x.poke(0, 0, 1), -3);
        CHECKS.due("waits, out of range", x.poke(0, 0, 256), -2);
        x.sync();
        x.page(1, -1, 2);
        x.commit(2);
        CHECKS.due("another one waits", x.poke(0, 20, 1), 1);
        CHECKS.due("another one waits", x.poke(0, 20, 1), 0);
        CHECKS.due("this one waits", x.poke(1, 20, 1), -3);
        x.sync();
        x.page(1, 1, 3);
        CHECKS.due("laid anew", x.poke(1, 20, 1), -3);
        int[] bytes = {-1, 32, Integer.MAX_VALUE, Integer.MIN_VALUE};
        for (int i : bytes) {
            CHECKS.due("poke(0, " + i + ", 1)", x.poke(0, i, 1), -2);
            CHECKS.due("poke(5, " + i + ", 1)", x.poke(5, i, 1), -1);
        }
        int[] masks = {0, -1, 256, Integer.MAX_VALUE, Integer.MIN_VALUE};
        for (int mask : masks) {
            CHECKS.due("poke(0, 0, " + mask + ")", x.poke(0, 0, mask), -2);
            CHECKS.due("poke(5, 0, " + mask + ")", x.poke(5, 0, mask), -1);
        }
        int[] none = {-1, 2, 29, 30, Integer.MAX_VALUE, Integer.MIN_VALUE};
        for (int page : none) {
            CHECKS.due("poke(" + page + ", 0, 1)", x.poke(page, 0, 1), -1);
        }
        CHECKS.page("as it was", x, 0, 1, 255, 1, 1);
        x.cut(0, 0);
        CHECKS.due("not running", x.poke(5, -1, 0), -3);
        CHECKS.due("not running", x.poke(0, 0, 1), -3);
    }

    /** Kind, source and value of a page are what its bytes say, wrong or not. */
    private static void toldByBytes() {
        KnowDisk x = new KnowDisk(20);
        x.page(1, -1, 5);
        x.page(2, -1, 6);
        x.page(3, 0, 0);
        x.commit(1);
        x.sync();
        x.poke(0, 15, 2);
        CHECKS.due("of the poked value", x.page(3, 0, 0), 3);
        CHECKS.page("of the poked value", x, 3, 3, 0, Bytes.derived(7), 0);
        x.poke(0, 4, 2);
        CHECKS.due("page 0 is derived now", x.page(3, 0, 0), -1);
        CHECKS.due("but of none", x.derived(0), 0);
        x.poke(0, 4, 2);
        x.poke(2, 4, 8);
        CHECKS.due("page 2 has no kind", x.derived(2), -1);
        CHECKS.due("so it may be a source", x.page(3, 2, 0), 4);
        x.poke(2, 4, 8);
        x.poke(2, 6, 1);
        CHECKS.due("page 2 is of page 1 now", x.derived(2), 1);
        CHECKS.page("page 2 is of page 1 now", x, 2, 3, 1, Bytes.derived(6), 0);
    }
}
