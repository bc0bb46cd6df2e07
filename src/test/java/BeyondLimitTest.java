/** Behind the 512th call answers are free, but no call throws by itself or fails to end. */
final class BeyondLimitTest {
    private static final Checks CHECKS = new Checks();

    public static void main(String[] args) {
        KnowDisk x = new KnowDisk(56);
        for (int call = 1; call <= 20000; call++) {
            x.page(1, call % 2 == 0 ? -1 : call % 30, call);
            x.page(0, (call + 15) % 30, 0);
            x.commit(call);
            x.backup(call);
            x.derived(call % 30);
        }
        x.sync();
        x.cut(3, 3);
        CHECKS.due("it starts all the same", x.start() >= 0, true);
        CHECKS.end();
    }
}
