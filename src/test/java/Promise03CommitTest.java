/** Promise 3: a transaction's number, how many writes it lets wait, and what is refused. */
final class Promise03CommitTest {
    private static final Checks CHECKS = new Checks();

    public static void main(String[] args) {
        counts();
        numbers();
        noChange();
        changeThatStays();
        allSectors();
        sumsOfPokedPages();
        CHECKS.end();
    }

    private static void counts() {
        KnowDisk x = new KnowDisk(20);
        CHECKS.due("nothing changed", x.commit(1), -3);
        CHECKS.due("nothing changed, a number out of range", x.commit(-1), -3);
        x.page(1, -1, 1);
        x.page(2, -1, 2);
        x.page(3, 0, 0);
        CHECKS.due("three and a head", x.commit(1), 4);
        CHECKS.page("0 has its number", x, 0, 1, 255, 1, 1);
        CHECKS.page("2 has its number", x, 2, 3, 0, Bytes.derived(1), 1);
        CHECKS.due("nothing changed since", x.commit(2), -3);
        x.page(1, 0, 5);
        x.page(1, 0, 6);
        x.page(1, -1, 7);
        x.page(0, 3, 0);
        CHECKS.due("one is still there, and a head", x.commit(2), 2);
        CHECKS.page("laid anew", x, 0, 1, 255, 6, 2);
        CHECKS.page("not laid since", x, 1, 2, 255, 2, 1);
        x.page(0, 1, 0);
        CHECKS.due("one went, a head", x.commit(3), 1);
        x.page(1, -1, 8);
        x.page(0, 1, 0);
        CHECKS.due("laid and gone, a head", x.commit(4), 1);
        x.page(1, 0, 9);
        CHECKS.due("page derived from it", x.derived(2), 1);
        CHECKS.due("two and a head", x.commit(5), 3);
        CHECKS.page("derived anew", x, 2, 3, 0, Bytes.derived(9), 5);
        x.full(true);
        x.page(1, -1, 1);
        x.page(0, 17, 1);
        CHECKS.due("only refused calls since", x.commit(6), -3);
        CHECKS.due("sync()", x.sync(), 5);
        CHECKS.due("nothing changed by sync", x.commit(6), -3);
        x.cut(0, 0);
        CHECKS.due("not running", x.commit(6), -3);
        CHECKS.due("not running, out of range", x.commit(0), -3);
        x.start();
        CHECKS.due("nothing changed by start", x.commit(6), -3);
    }

    /** "(also when nothing was changed: no page was laid or went)": other calls are no change. */
    private static void noChange() {
        KnowDisk x = new KnowDisk(4);
        x.page(1, -1, 1);
        x.page(3, 0, 0);
        x.commit(1);
        x.sync();
        x.poke(0, 4, 2);
        CHECKS.due("a poke", x.commit(2), -3);
        x.poke(0, 4, 2);
        CHECKS.due("derived(1), it is right", x.derived(1), 0);
        CHECKS.due("a derived page that is right", x.commit(2), -3);
        x.backup(1);
        CHECKS.due("a backup", x.commit(2), -3);
        x.drop(1);
        CHECKS.due("a drop", x.commit(2), -3);
        x.full(true);
        x.full(false);
        CHECKS.due("full", x.commit(2), -3);
        x.page(1, -1, 1);
        x.cut(9, 32);
        CHECKS.due("start()", x.start(), 1);
        CHECKS.due("a page that was lost by a cut", x.commit(2), -3);
        CHECKS.due("the page goes", x.page(0, 0, 0), 0);
        CHECKS.due("that is one", x.commit(2), 1);
    }

    /** A change is there till it is committed, over a sync and over a commit that was refused. */
    private static void changeThatStays() {
        KnowDisk x = new KnowDisk(4);
        x.page(1, -1, 1);
        CHECKS.due("sync()", x.sync(), 0);
        CHECKS.due("refused", x.commit(0), -2);
        CHECKS.due("refused", x.commit(1000001), -2);
        CHECKS.page("as it was laid", x, 0, 1, 255, 1, 0);
        CHECKS.due("the latest one", x.sync(), 0);
        CHECKS.due("commit(1)", x.commit(1), 2);
        x.page(0, 0, 0);
        CHECKS.due("refused", x.commit(1), -2);
        CHECKS.due("sync()", x.sync(), 1);
        CHECKS.due("commit(2)", x.commit(2), 1);
    }

    /** How many writes at most: 30 pages and a head. */
    private static void allSectors() {
        KnowDisk x = new KnowDisk(56);
        for (int page = 0; page < 30; page++) {
            x.page(1, -1, page);
        }
        CHECKS.due("30 pages and a head", x.commit(1), 31);
        for (int page = 0; page < 30; page++) {
            x.page(0, page, 0);
        }
        CHECKS.due("no page, a head", x.commit(2), 1);
    }

    /** "-2 when the number is not above the latest one's, or above 1000000". */
    private static void numbers() {
        KnowDisk x = new KnowDisk(20);
        x.page(1, -1, 1);
        int[] outside = {0, -1, 1000001, Integer.MAX_VALUE, Integer.MIN_VALUE};
        for (int number : outside) {
            CHECKS.due("commit(" + number + ")", x.commit(number), -2);
        }
        CHECKS.due("commit(70000)", x.commit(70000), 2);
        CHECKS.page("four bytes of a number", x, 0, 1, 255, 1, 70000);
        x.page(2, -1, 1);
        CHECKS.due("the same number", x.commit(70000), -2);
        CHECKS.due("a lesser number", x.commit(69999), -2);
        CHECKS.due("the greatest number", x.commit(1000000), 2);
        x.page(2, -1, 1);
        CHECKS.due("none is above it", x.commit(1000001), -2);
        CHECKS.due("sync()", x.sync(), 1000000);
        x.cut(0, 0);
        CHECKS.due("start()", x.start(), 1000000);
        x.page(2, -1, 1);
        CHECKS.due("not above what start found", x.commit(1000000), -2);
    }

    /** The head has the xor of the sums that stand in the sectors, not of what they should be. */
    private static void sumsOfPokedPages() {
        KnowDisk x = new KnowDisk(20);
        x.page(1, -1, 1);
        x.page(1, -1, 2);
        x.commit(1);
        x.sync();
        x.poke(0, 1, 0x55);
        x.page(1, 1, 3);
        x.commit(2);
        x.sync();
        x.poke(0, 1, 0x55);
        x.cut(0, 0);
        CHECKS.due("the sum was another when 2 was told; the head of 1 needs 1's old sector", x.start(), 1);
        x = new KnowDisk(20);
        x.page(1, -1, 1);
        x.page(1, -1, 2);
        x.commit(1);
        x.sync();
        x.poke(0, 9, 0x55);
        x.page(1, 1, 3);
        x.commit(2);
        x.sync();
        x.poke(0, 9, 0x55);
        x.cut(0, 0);
        CHECKS.due("the value was another, not the sum", x.start(), 2);
    }
}
