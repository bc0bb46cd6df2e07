/** Terms: in which order a commit lets its writes wait, and which head is which. */
final class TermsCommitOrderTest {
    private static final Checks CHECKS = new Checks();

    public static void main(String[] args) {
        bySectorNumbers();
        headIsLast();
        oneCommitBehindTheOther();
        oddAndEvenHeads();
        CHECKS.end();
    }

    /**
     * Head 1 tells transaction 1 with nothing but this sector (2 .. 4), head 0 transaction 2 with
     * nothing but sector 5, whose sum is wrong. So start() finds 1 as long as no write has reached
     * that sector, and so tells when one does.
     */
    private static KnowDisk watching(int sector) {
        KnowDisk x = new KnowDisk(4);
        for (int page = 0; page < 3; page++) {
            x.page(1, -1, 10);
        }
        for (int page = 0; page < 3; page++) {
            if (page + 2 != sector) {
                x.page(0, page, 0);
            }
        }
        CHECKS.due("commit(1)", x.commit(1), 2);
        x.sync();
        for (int page = 0; page < 2; page++) {
            x.page(1, -1, 11);
        }
        CHECKS.due("the page in sector 5", x.page(1, -1, 12), 3);
        for (int page = 0; page < 3; page++) {
            x.page(0, page, 0);
        }
        CHECKS.due("commit(2)", x.commit(2), 2);
        x.sync();
        x.poke(3, 31, 1);
        CHECKS.due("the wrong page's sector", x.wrong(2), 5);
        return x;
    }

    /** "(by their sector numbers)": not by the order of laying, nor by the pages' numbers. */
    private static void bySectorNumbers() {
        for (int sector = 2; sector <= 4; sector++) {
            for (int keep = 0; keep <= 4; keep++) {
                for (int tear = 0; tear <= 32; tear += 16) {
                    KnowDisk x = watching(sector);
                    x.page(1, -1, 20);
                    x.page(1, -1, 21);
                    x.page(1, 0, 22);
                    x.page(1, -1, 23);
                    x.page(0, 3, 0);
                    CHECKS.due("commit(4)", x.commit(4), 4);
                    x.cut(keep, tear);
                    int reached = Math.min(4, keep + (tear > 0 ? 1 : 0));
                    int due = keep + (tear == 32 ? 1 : 0) >= 4 ? 4 : sector - 2 < reached ? 0 : 1;
                    CHECKS.due("watching " + sector + ", cut(" + keep + ", " + tear + ")", x.start(), due);
                }
            }
        }
    }

    /** "then the head": no head is there before all its pages are. */
    private static void headIsLast() {
        for (int keep = 0; keep <= 4; keep++) {
            KnowDisk x = new KnowDisk(4);
            x.page(1, -1, 1);
            x.page(2, -1, 2);
            x.page(3, 1, 0);
            CHECKS.due("commit(1)", x.commit(1), 4);
            x.cut(keep, 0);
            CHECKS.due("cut(" + keep + ", 0)", x.start(), keep < 4 ? 0 : 1);
        }
    }

    /** Writes of a later commit wait behind those of an earlier one, though their sectors are less. */
    private static void oneCommitBehindTheOther() {
        for (int keep = 0; keep <= 4; keep++) {
            KnowDisk x = new KnowDisk(4);
            x.page(1, -1, 1);
            x.page(1, -1, 2);
            x.page(0, 0, 0);
            x.commit(1);
            x.page(1, -1, 3);
            x.commit(2);
            x.cut(keep, 0);
            CHECKS.due("cut(" + keep + ", 0)", x.start(), keep < 2 ? 0 : keep < 4 ? 1 : 2);
        }
    }

    /** "in sector 1 for odd numbers of transactions, else in sector 0": one torn over the other. */
    private static void oddAndEvenHeads() {
        int[] numbers = {1, 2, 3, 4, 999998, 999999, 1000000};
        for (int first : numbers) {
            for (int second : numbers) {
                if (second > first) {
                    KnowDisk x = new KnowDisk(4);
                    x.page(1, -1, 1);
                    x.commit(first);
                    x.sync();
                    x.page(1, -1, 2);
                    x.commit(second);
                    x.cut(1, 12);
                    int due = first % 2 == second % 2 ? 0 : first;
                    CHECKS.due("the head of " + second + " torn, " + first + " was before", x.start(), due);
                }
            }
        }
    }
}
