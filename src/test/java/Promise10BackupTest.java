/** Promise 10: states are kept, four at most. */
final class Promise10BackupTest {
    private static final Checks CHECKS = new Checks();

    public static void main(String[] args) {
        KnowDisk x = new KnowDisk(0);
        x.page(1, -1, 1);
        x.page(1, -1, 2);
        CHECKS.due("laid pages are not in it", x.backup(0), 0);
        CHECKS.due("another number", x.backup(1), -1);
        x.commit(1);
        CHECKS.due("no more the latest", x.backup(0), -1);
        CHECKS.due("waiting is enough", x.backup(1), 2);
        x.sync();
        x.page(0, 0, 0);
        CHECKS.due("the latest, not the open one", x.backup(1), 2);
        x.page(0, 1, 0);
        x.commit(2);
        x.sync();
        CHECKS.due("none", x.backup(2), 0);
        CHECKS.due("none", x.backup(-1), -1);
        CHECKS.due("a fifth one of another number", x.backup(1), -1);
        CHECKS.due("a fifth one", x.backup(2), -4);
        for (int page = 0; page < 4; page++) {
            CHECKS.due("sectors that are not kept", x.page(1, -1, 5), page);
        }
        CHECKS.due("sectors 2, 3 are kept", x.page(1, -1, 5), -4);
        CHECKS.due("drop(0)", x.drop(0), 0);
        x.full(true);
        CHECKS.due("full is nothing to a backup", x.backup(2), 0);
        x.cut(0, 0);
        CHECKS.due("not running", x.backup(2), -3);
        CHECKS.due("not running", x.backup(7), -3);
        CHECKS.end();
    }
}
