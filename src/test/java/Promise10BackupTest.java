/** Promise 10: states are kept, four at most. */
final class Promise10BackupTest {
    private static final Checks CHECKS = new Checks();

    public static void main(String[] args) {
        sameStateFourTimes();
        thirtyPages();
        KnowDisk x = new KnowDisk(0);
        x.page(1, -1, 1);
        x.page(1, -1, 2);
        CHECKS.due("laid pages are not in it", x.backup(0), 0);
        CHECKS.due("another number", x.backup(1), -1);
        x.commit(1);
        CHECKS.due("no more the latest", x.backup(0), -1);
        CHECKS.due("waiting is enough", x.backup(1), 2);
        x.sync();
        x.page(0, 0, 0);
        CHECKS.due("the latest, not the open one", x.backup(1), 2);
        x.page(0, 1, 0);
        x.commit(2);
        x.sync();
        CHECKS.due("none", x.backup(2), 0);
        CHECKS.due("none", x.backup(-1), -1);
        CHECKS.due("a fifth one of another number", x.backup(1), -1);
        CHECKS.due("a fifth one", x.backup(2), -4);
        for (int page = 0; page < 4; page++) {
            CHECKS.due("sectors that are not kept", x.page(1, -1, 5), page);
        }
        CHECKS.due("sectors 2, 3 are kept", x.page(1, -1, 5), -4);
        CHECKS.due("drop(0)", x.drop(0), 0);
        x.full(true);
        CHECKS.due("full is nothing to a backup", x.backup(2), 0);
        x.cut(0, 0);
        CHECKS.due("not running", x.backup(2), -3);
        CHECKS.due("not running", x.backup(7), -3);
        CHECKS.end();
    }

    /** "-4 when 4 are kept": also 4 of one number; one that is dropped makes room for one. */
    private static void sameStateFourTimes() {
        KnowDisk x = new KnowDisk(0);
        x.page(1, -1, 1);
        x.commit(1);
        for (int k = 0; k < 4; k++) {
            CHECKS.due("backup(1)", x.backup(1), 1);
        }
        CHECKS.due("a fifth", x.backup(1), -4);
        CHECKS.due("another number comes before", x.backup(0), -1);
        CHECKS.due("drop(1)", x.drop(1), 0);
        CHECKS.due("room for one", x.backup(1), 1);
        CHECKS.due("and no more", x.backup(1), -4);
        x.cut(2, 0);
        x.start();
        CHECKS.due("nothing is kept behind a cut", x.backup(1), 1);
        CHECKS.due("but this one", x.drop(1), 0);
        CHECKS.due("and no other", x.drop(1), -1);
    }

    private static void thirtyPages() {
        KnowDisk x = new KnowDisk(56);
        for (int page = 0; page < 30; page++) {
            x.page(1, -1, page);
        }
        x.commit(1);
        CHECKS.due("30 pages", x.backup(1), 30);
        x.sync();
        for (int page = 0; page < 30; page++) {
            x.page(0, page, 0);
        }
        x.commit(2);
        x.sync();
        CHECKS.due("their sectors become free", x.drop(1), 30);
    }
}
