/** Promise 7: "Byte i (0 .. 31)", "There are no others, and no such page when the disk does not run." */
final class Promise07AtTest {
    private static final Checks CHECKS = new Checks();

    public static void main(String[] args) {
        KnowDisk x = new KnowDisk(20);
        x.page(1, -1, 0x80FF7F0102030405L);
        CHECKS.page("laid", x, 0, 1, 255, 0x80FF7F0102030405L, 0);
        CHECKS.due("with sign", x.at(0, 8), -128);
        CHECKS.due("with sign", x.at(0, 6), -1);
        x.commit(1);
        CHECKS.page("waits", x, 0, 1, 255, 0x80FF7F0102030405L, 1);
        x.sync();
        CHECKS.page("on the disk", x, 0, 1, 255, 0x80FF7F0102030405L, 1);
        CHECKS.due("poke", x.poke(0, 30, 0x81), 0x81);
        CHECKS.due("poked, with sign", x.at(0, 30), (byte) 0x81);
        x.poke(0, 30, 0x81);
        int[] outside = {-1, 32, 33, 64, Integer.MAX_VALUE, Integer.MIN_VALUE, Integer.MIN_VALUE + 32};
        for (int i : outside) {
            CHECKS.noByte(x, 0, i);
        }
        int[] none = {-1, 1, 29, 30, 255, Integer.MAX_VALUE, Integer.MIN_VALUE};
        for (int page : none) {
            CHECKS.noByte(x, page, 0);
            CHECKS.noByte(x, page, 32);
        }
        x.cut(0, 0);
        CHECKS.noByte(x, 0, 0);
        x.start();
        CHECKS.page("started", x, 0, 1, 255, 0x80FF7F0102030405L, 1);
        CHECKS.end();
    }
}
