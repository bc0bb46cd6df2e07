/** Promise 11: kept states are let go, the first one of a number. */
final class Promise11DropTest {
    private static final Checks CHECKS = new Checks();

    public static void main(String[] args) {
        counts();
        firstOfANumber();
        whyNotFree();
        CHECKS.end();
    }

    private static void counts() {
        KnowDisk x = new KnowDisk(0);
        CHECKS.due("nothing is kept", x.drop(0), -1);
        x.page(1, -1, 1);
        x.page(1, -1, 2);
        x.page(1, -1, 3);
        x.commit(1);
        x.sync();
        x.backup(1);
        x.backup(1);
        x.page(1, 0, 4);
        x.commit(2);
        x.backup(2);
        CHECKS.due("others keep all of it", x.drop(1), 0);
        CHECKS.due("1 is still on the disk", x.drop(1), 0);
        CHECKS.due("1 is kept no more", x.drop(1), -1);
        x.sync();
        x.page(0, 1, 0);
        x.page(0, 2, 0);
        CHECKS.due("the latest has all of it", x.drop(2), 0);
        x.backup(2);
        x.commit(3);
        CHECKS.due("a head behind it does not count yet", x.drop(2), 0);
        x.backup(3);
        x.sync();
        CHECKS.due("3 is open", x.drop(3), 0);
        x = new KnowDisk(0);
        x.page(1, -1, 1);
        x.page(1, -1, 2);
        x.page(1, -1, 3);
        x.commit(1);
        x.backup(1);
        x.sync();
        x.page(0, 0, 0);
        x.page(0, 2, 0);
        x.commit(2);
        x.sync();
        CHECKS.due("two of three become free", x.drop(1), 2);
        CHECKS.due("drop of another one", x.drop(2), -1);
        x.cut(0, 0);
        CHECKS.due("not running", x.drop(1), -3);
    }

    /** "how many sectors become free": not one that is in use for another reason, each by itself. */
    private static void whyNotFree() {
        KnowDisk x = threePagesKept();
        CHECKS.due("free of all", x.drop(1), 3);
        x = threePagesKept();
        x.page(1, -1, 5);
        CHECKS.due("a page is elsewhere, for these are kept", x.drop(1), 3);
        x = new KnowDisk(0);
        x.page(1, -1, 1);
        x.commit(1);
        x.backup(1);
        CHECKS.due("in the open state", x.drop(1), 0);
        x.sync();
        x.backup(1);
        x.page(0, 0, 0);
        CHECKS.due("in the latest synced", x.drop(1), 0);
        x.backup(1);
        x.commit(2);
        x.backup(2);
        CHECKS.due("in the latest synced, behind a commit", x.drop(1), 0);
        x.page(1, -1, 2);
        x.commit(3);
        x.backup(3);
        x.page(0, 0, 0);
        x.commit(4);
        CHECKS.due("in one behind the latest synced", x.drop(3), 0);
        x = threePagesKept();
        x.cut(0, 0);
        x.start();
        CHECKS.due("nothing is kept behind a cut", x.drop(1), -1);
    }

    /** Transaction 1 has three pages and is kept, 2 has none and is on the disk. */
    private static KnowDisk threePagesKept() {
        KnowDisk x = new KnowDisk(0);
        for (int page = 0; page < 3; page++) {
            x.page(1, -1, page);
        }
        x.commit(1);
        x.backup(1);
        for (int page = 0; page < 3; page++) {
            x.page(0, page, 0);
        }
        x.commit(2);
        x.sync();
        return x;
    }

    /** "(the first one of that number)": one is kept no more, others of that number are. */
    private static void firstOfANumber() {
        KnowDisk x = new KnowDisk(0);
        x.page(1, -1, 1);
        x.page(1, -1, 2);
        x.commit(1);
        x.sync();
        x.backup(1);
        x.page(0, 0, 0);
        x.commit(5);
        x.backup(5);
        x.sync();
        x.page(0, 1, 0);
        x.commit(6);
        x.sync();
        CHECKS.due("1 has a sector of its own", x.drop(1), 1);
        CHECKS.due("then 5 has", x.drop(5), 1);
        CHECKS.due("1 is gone", x.drop(1), -1);
        CHECKS.due("5 is gone", x.drop(5), -1);
        x.backup(6);
        x.backup(6);
        CHECKS.due("6 once", x.drop(6), 0);
        CHECKS.due("6 twice", x.drop(6), 0);
        CHECKS.due("6 no more", x.drop(6), -1);
    }
}
