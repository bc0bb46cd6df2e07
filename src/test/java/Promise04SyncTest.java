/** Promise 4: all that waits reaches the disk. */
final class Promise04SyncTest {
    private static final Checks CHECKS = new Checks();

    public static void main(String[] args) {
        manyHeads();
        KnowDisk x = new KnowDisk(20);
        CHECKS.due("nothing waits", x.sync(), 0);
        x.page(1, -1, 1);
        CHECKS.due("laid, not committed", x.sync(), 0);
        x.commit(5);
        x.page(1, 0, 2);
        x.commit(9);
        x.page(1, -1, 3);
        CHECKS.due("two wait", x.sync(), 9);
        CHECKS.page("laid since", x, 1, 1, 255, 3, 0);
        CHECKS.due("nothing waits any more", x.sync(), 9);
        CHECKS.due("poke of what has reached the disk", x.poke(0, 31, 1), 1);
        CHECKS.due("poke back", x.poke(0, 31, 1), 0);
        CHECKS.due("poke of what was laid", x.poke(1, 31, 1), -3);
        x.cut(0, 0);
        CHECKS.due("sync(), not running", x.sync(), -3);
        CHECKS.due("start()", x.start(), 9);
        CHECKS.page("as 9 left it", x, 0, 1, 255, 2, 9);
        CHECKS.noByte(x, 1, 0);
        CHECKS.due("sync()", x.sync(), 9);
        x.page(0, 0, 0);
        CHECKS.due("sync() tells the latest transaction", x.sync(), 9);
        x.commit(12);
        CHECKS.due("sync()", x.sync(), 12);
        CHECKS.end();
    }

    /** "All writes that wait reach the disk", the last one of a sector being the one that stays. */
    private static void manyHeads() {
        for (int commits = 1; commits <= 5; commits++) {
            KnowDisk x = new KnowDisk(20);
            for (int number = 1; number <= commits; number++) {
                x.page(1, number == 1 ? -1 : 0, number);
                x.commit(number);
            }
            CHECKS.due("sync()", x.sync(), commits);
            x.cut(0, 0);
            CHECKS.due("start()", x.start(), commits);
            CHECKS.page("the last one", x, 0, 1, 255, commits, commits);
            x.poke(0, 31, 1);
            x.cut(0, 0);
            CHECKS.due("the head before is there too", x.start(), commits - 1);
        }
    }
}
