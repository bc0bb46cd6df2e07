/** Promise 11: kept states are let go, the first one of a number. */
final class Promise11DropTest {
    private static final Checks CHECKS = new Checks();

    public static void main(String[] args) {
        counts();
        firstOfANumber();
        CHECKS.end();
    }

    private static void counts() {
        KnowDisk x = new KnowDisk(0);
        CHECKS.due("nothing is kept", x.drop(0), -1);
        x.page(1, -1, 1);
        x.page(1, -1, 2);
        x.page(1, -1, 3);
        x.commit(1);
        x.sync();
        x.backup(1);
        x.backup(1);
        x.page(1, 0, 4);
        x.commit(2);
        x.backup(2);
        CHECKS.due("others keep all of it", x.drop(1), 0);
        CHECKS.due("1 is still on the disk", x.drop(1), 0);
        CHECKS.due("1 is kept no more", x.drop(1), -1);
        x.sync();
        x.page(0, 1, 0);
        x.page(0, 2, 0);
        CHECKS.due("the latest has all of it", x.drop(2), 0);
        x.backup(2);
        x.commit(3);
        CHECKS.due("a head behind it does not count yet", x.drop(2), 0);
        x.backup(3);
        x.sync();
        CHECKS.due("3 is open", x.drop(3), 0);
        x = new KnowDisk(0);
        x.page(1, -1, 1);
        x.page(1, -1, 2);
        x.page(1, -1, 3);
        x.commit(1);
        x.backup(1);
        x.sync();
        x.page(0, 0, 0);
        x.page(0, 2, 0);
        x.commit(2);
        x.sync();
        CHECKS.due("two of three become free", x.drop(1), 2);
        CHECKS.due("drop of another one", x.drop(2), -1);
        x.cut(0, 0);
        CHECKS.due("not running", x.drop(1), -3);
    }

    /** Behind start() the same number can be that of another state. */
    private static void firstOfANumber() {
        KnowDisk x = new KnowDisk(0);
        x.page(1, -1, 1);
        x.page(1, -1, 2);
        x.commit(1);
        x.sync();
        x.backup(1);
        x.page(0, 0, 0);
        x.commit(5);
        x.backup(5);
        x.sync();
        x.page(0, 1, 0);
        x.commit(6);
        x.sync();
        CHECKS.due("1 has a sector of its own", x.drop(1), 1);
        CHECKS.due("then 5 has", x.drop(5), 1);
        CHECKS.due("1 is gone", x.drop(1), -1);
        CHECKS.due("5 is gone", x.drop(5), -1);
        x.backup(6);
        x.backup(6);
        CHECKS.due("6 once", x.drop(6), 0);
        CHECKS.due("6 twice", x.drop(6), 0);
        CHECKS.due("6 no more", x.drop(6), -1);
    }
}
