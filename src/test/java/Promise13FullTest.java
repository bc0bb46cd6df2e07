/** Promise 13: "The disk is said to be full, or not (also when it does not run): whether it was." */
final class Promise13FullTest {
    private static final Checks CHECKS = new Checks();

    public static void main(String[] args) {
        KnowDisk x = new KnowDisk(20);
        CHECKS.due("full(true)", x.full(true), false);
        CHECKS.due("full(true)", x.full(true), true);
        CHECKS.due("page", x.page(1, -1, 1), -4);
        CHECKS.due("full(false)", x.full(false), true);
        CHECKS.due("full(false)", x.full(false), false);
        CHECKS.due("page", x.page(1, -1, 1), 0);
        x.full(true);
        CHECKS.due("commit on a full disk", x.commit(1), 2);
        CHECKS.due("sync on a full disk", x.sync(), 1);
        x.cut(0, 0);
        CHECKS.due("not running", x.full(true), true);
        CHECKS.due("start on a full disk", x.start(), 1);
        CHECKS.due("it is still full", x.page(1, -1, 1), -4);
        x.cut(0, 0);
        CHECKS.due("not running", x.full(false), true);
        CHECKS.due("not running", x.full(false), false);
        x.start();
        CHECKS.due("it is full no more", x.page(1, -1, 1), 1);
        CHECKS.end();
    }
}
