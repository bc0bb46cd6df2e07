/** Promise 1: sizes of 8 .. 64 sectors, running, no pages, transaction 0 as if on the disk. */
final class Promise01NewObjectTest {
    private static final Checks CHECKS = new Checks();

    public static void main(String[] args) {
        sizes();
        smallestAndLargest();
        beginning();
        transactionZero();
        CHECKS.end();
    }

    /** "(8 more than sectors modulo 57)": what is left over is never below 0. */
    private static void sizes() {
        int[] given = {0, 1, 56, 57, 58, -1, -57, -58, Integer.MAX_VALUE, Integer.MIN_VALUE};
        for (int sectors : given) {
            long rest = ((long) sectors % 57 + 57) % 57;
            CHECKS.due("places of KnowDisk(" + sectors + ")", places(new KnowDisk(sectors)), rest + 8 - 2);
        }
        for (int sectors = 2; sectors < 56; sectors++) {
            CHECKS.due("places of KnowDisk(" + sectors + ")", places(new KnowDisk(sectors)), sectors + 8 - 2);
        }
    }

    /** How many page sectors a new disk has: first 25 that are kept, then what is left for others. */
    private static int places(KnowDisk x) {
        int laid = fill(x, 25);
        x.commit(1);
        x.backup(1);
        for (int page = 0; page < laid; page++) {
            x.page(0, page, 0);
        }
        x.commit(2);
        x.sync();
        int more = laid + fill(x, 25);
        x.commit(3);
        x.backup(3);
        for (int page = 0; page < 25; page++) {
            x.page(0, page, 0);
        }
        x.commit(4);
        x.sync();
        return more + fill(x, 25);
    }

    private static int fill(KnowDisk x, int most) {
        int laid = 0;
        while (laid < most && x.page(1, -1, laid) >= 0) {
            laid++;
        }
        return laid;
    }

    /** "A disk of 8 .. 64 sectors", written out: the least, the greatest, and where it wraps around. */
    private static void smallestAndLargest() {
        int[][] pairs = {{0, 8}, {56, 64}, {57, 8}, {-1, 64}, {-57, 8}, {114, 8}, {113, 64},
            {Integer.MAX_VALUE, 48}, {Integer.MIN_VALUE, 24}};
        for (int[] pair : pairs) {
            CHECKS.due("sectors of KnowDisk(" + pair[0] + ")", places(new KnowDisk(pair[0])) + 2, pair[1]);
        }
    }

    /** "running, with an open state without pages". */
    private static void beginning() {
        KnowDisk x = new KnowDisk(7);
        CHECKS.due("start() of a new one", x.start(), -3);
        CHECKS.due("sync() of a new one", x.sync(), 0);
        CHECKS.due("commit(1) of a new one", x.commit(1), -3);
        CHECKS.due("backup(0) of a new one", x.backup(0), 0);
        CHECKS.due("backup(1) of a new one", x.backup(1), -1);
        CHECKS.due("drop(0) of a new one", x.drop(0), 0);
        CHECKS.due("drop(0) again", x.drop(0), -1);
        CHECKS.due("wrong(0) of a new one", x.wrong(0), 0);
        CHECKS.due("full(false) of a new one", x.full(false), false);
        for (int page = -1; page <= 30; page++) {
            CHECKS.noByte(x, page, 0);
            CHECKS.due("derived of a new one", x.derived(page), -1);
        }
        x.cut(0, 0);
        CHECKS.due("start() of an empty disk", x.start(), 0);
        CHECKS.due("page(1, -1, 3) on it", x.page(1, -1, 3), 0);
    }

    /** "the latest transaction is 0, without pages, as if its head had reached the disk". */
    private static void transactionZero() {
        KnowDisk x = new KnowDisk(0);
        CHECKS.due("sync()", x.sync(), 0);
        for (int page = 0; page < 6; page++) {
            CHECKS.due("all its sectors are free", x.page(1, -1, 3), page);
        }
        CHECKS.due("commit(0) is not above it", x.commit(0), -2);
        CHECKS.due("backup(0)", x.backup(0), 0);
        CHECKS.due("sync() brings none of the pages", x.sync(), 0);
        x.cut(0, 32);
        CHECKS.due("start()", x.start(), 0);
        CHECKS.noByte(x, 0, 0);
        CHECKS.due("a page", x.page(1, -1, 3), 0);
        CHECKS.due("the least number above it", x.commit(1), 2);
    }
}
