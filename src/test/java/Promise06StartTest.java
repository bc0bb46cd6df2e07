import java.nio.ByteBuffer;

/** Promise 6: which head is whole, and which of two. */
final class Promise06StartTest {
    private static final Checks CHECKS = new Checks();

    public static void main(String[] args) {
        greaterNumber();
        noneIsWhole();
        emptyState();
        thirtyPages();
        onlyOneIsWhole();
        wrongSum();
        wrongXor();
        swapped();
        notAPage();
        CHECKS.end();
    }

    /** "0 when none is whole (no pages)": on a disk of 0s, whose sums of 0 are right, byte 4 is not 9. */
    private static void noneIsWhole() {
        KnowDisk x = new KnowDisk(0);
        for (int k = 0; k < 3; k++) {
            x.cut(0, 0);
            CHECKS.due("start() of 0s", x.start(), 0);
            for (int page = 0; page < 6; page++) {
                CHECKS.noByte(x, page, 0);
                CHECKS.due("all sectors are free", x.page(1, -1, 1), page);
            }
        }
    }

    /** A state without pages is one like others: its number is told. */
    private static void emptyState() {
        for (int number = 1; number <= 2; number++) {
            KnowDisk x = new KnowDisk(0);
            x.page(1, -1, 1);
            x.page(0, 0, 0);
            x.commit(number);
            x.cut(1, 0);
            CHECKS.due("start()", x.start(), number);
            CHECKS.noByte(x, 0, 0);
            CHECKS.due("backup of it", x.backup(number), 0);
            x.page(1, -1, 1);
            CHECKS.due("not above it", x.commit(number), -2);
        }
    }

    private static void thirtyPages() {
        KnowDisk x = new KnowDisk(56);
        for (int page = 0; page < 30; page++) {
            x.page(1 + page % 2, -1, page);
        }
        x.commit(7);
        x.cut(31, 0);
        CHECKS.due("start()", x.start(), 7);
        for (int page = 0; page < 30; page++) {
            CHECKS.due("kind of page " + page, x.at(page, 4), 1 + page % 2);
            CHECKS.due("value of page " + page, x.at(page, 15), page);
        }
        CHECKS.due("a 31st", x.page(1, -1, 0), -4);
        CHECKS.due("backup(7)", x.backup(7), 30);
    }

    /** "The state of the whole head with the greater number": a greater one that is not whole is none. */
    private static void onlyOneIsWhole() {
        for (int number = 1; number <= 2; number++) {
            KnowDisk x = new KnowDisk(4);
            x.page(1, -1, 1);
            x.commit(number);
            x.sync();
            x.page(1, 0, 2);
            x.page(1, -1, 3);
            x.commit(number + 1);
            x.sync();
            x.poke(1, 12, 16);
            x.cut(0, 0);
            CHECKS.due("start()", x.start(), number);
            CHECKS.page("the state before", x, 0, 1, 255, 1, number);
            CHECKS.noByte(x, 1, 0);
            x.page(1, -1, 4);
            CHECKS.due("its number is the latest one", x.commit(number + 1), 2);
        }
    }

    private static void greaterNumber() {
        int[][] pairs = {{1, 2}, {2, 3}, {1, 1000000}, {255, 256}, {256, 999999}, {65535, 65536}};
        for (int[] pair : pairs) {
            KnowDisk x = new KnowDisk(4);
            x.page(1, -1, 1);
            x.commit(pair[0]);
            x.sync();
            x.page(1, 0, 2);
            x.commit(pair[1]);
            x.sync();
            CHECKS.due("running", x.start(), -3);
            x.cut(0, 0);
            CHECKS.due("start() of " + pair[0] + " and " + pair[1], x.start(), pair[1]);
            CHECKS.page("start()", x, 0, 1, 255, 2, pair[1]);
            CHECKS.due("running again", x.start(), -3);
            x.page(1, -1, 1);
            CHECKS.due("the number is the latest one", x.commit(pair[1]), -2);
            CHECKS.due("backup of it", x.backup(pair[1]), 1);
            x.cut(0, 0);
            CHECKS.due("and again", x.start(), pair[1]);
            CHECKS.noByte(x, 1, 0);
        }
    }

    private static KnowDisk twoPagesOf(int pairs) {
        KnowDisk x = new KnowDisk(20);
        for (int k = 0; k < pairs; k++) {
            x.page(1, -1, 100 + k);
            x.page(2, -1, 200 + k);
        }
        x.commit(1);
        x.sync();
        return x;
    }

    private static void wrongSum() {
        for (int i = 0; i < 32; i++) {
            KnowDisk x = twoPagesOf(1);
            x.page(1, 1, 5);
            x.commit(2);
            x.sync();
            x.poke(1, i, 0x80);
            x.cut(0, 0);
            CHECKS.due("2 is not whole, 1 is, byte " + i, x.start(), 1);
            x = twoPagesOf(1);
            x.page(1, 1, 5);
            x.commit(2);
            x.sync();
            x.poke(0, i, 0x80);
            x.cut(0, 0);
            CHECKS.due("none is whole, byte " + i, x.start(), 0);
            CHECKS.noByte(x, 0, 0);
            CHECKS.due("nothing is latest", x.backup(0), 0);
            CHECKS.due("all numbers are above", x.page(1, -1, 1), 0);
            CHECKS.due("commit(1)", x.commit(1), 2);
        }
    }

    private static void wrongXor() {
        KnowDisk x = twoPagesOf(1);
        byte[] other = Bytes.page(1, 0, 255, 101, 1);
        Bytes.force(x, 0, other);
        CHECKS.due("its sum is right", x.wrong(0), 0);
        x.cut(0, 0);
        CHECKS.due("but the xor is not as told", x.start(), 0);
    }

    /** Two pages change places: nothing is wrong, and their numbers are told by byte 5. */
    private static void swapped() {
        KnowDisk x = twoPagesOf(1);
        byte[] zero = Bytes.of(x, 0);
        byte[] one = Bytes.of(x, 1);
        Bytes.force(x, 0, one);
        Bytes.force(x, 1, zero);
        CHECKS.due("sums are right", x.wrong(0), 0);
        CHECKS.bytes("running, a page stays where it is", x, 0, one);
        x.cut(0, 0);
        CHECKS.due("start()", x.start(), 1);
        CHECKS.bytes("started", x, 0, zero);
        CHECKS.bytes("started", x, 1, one);
        x.poke(0, 31, 1);
        CHECKS.due("page 0 is in 3", x.wrong(2), 3);
        CHECKS.due("page 0 is wrong", x.wrong(1), 0);
    }

    /** Page 0 gets other bytes with a right sum, page 1 makes up for it in the xor. */
    private static int startWith(KnowDisk x, byte[] zero) {
        int xor = Bytes.sum(Bytes.of(x, 0)) ^ Bytes.sum(Bytes.of(x, 1));
        Bytes.force(x, 0, zero);
        Bytes.force(x, 1, Bytes.withSum(Bytes.of(x, 1), xor ^ Bytes.sum(zero)));
        CHECKS.due("sums are right", x.wrong(0), 0);
        x.cut(0, 0);
        return x.start();
    }

    private static void notAPage() {
        CHECKS.due("another value", startWith(twoPagesOf(2), Bytes.page(1, 0, 255, 7, 1)), 1);
        CHECKS.due("another number", startWith(twoPagesOf(2), Bytes.page(1, 29, 255, 7, 1)), 1);
        CHECKS.due("another source", startWith(twoPagesOf(2), Bytes.page(3, 0, 77, 7, 1)), 1);
        CHECKS.due("number 30", startWith(twoPagesOf(2), Bytes.page(1, 30, 255, 7, 1)), 0);
        CHECKS.due("number 255", startWith(twoPagesOf(2), Bytes.page(1, 255, 255, 7, 1)), 0);
        CHECKS.due("kind 0", startWith(twoPagesOf(2), Bytes.page(0, 0, 255, 7, 1)), 0);
        CHECKS.due("kind 3", startWith(twoPagesOf(2), Bytes.page(3, 0, 255, 7, 1)), 1);
        CHECKS.due("kind 4", startWith(twoPagesOf(2), Bytes.page(4, 0, 255, 7, 1)), 0);
        CHECKS.due("kind 9", startWith(twoPagesOf(2), Bytes.page(9, 0, 255, 7, 1)), 0);
        CHECKS.due("kind 255", startWith(twoPagesOf(2), Bytes.page(255, 0, 255, 7, 1)), 0);
        CHECKS.due("page 3 twice", startWith(twoPagesOf(2), Bytes.page(2, 3, 255, 7, 1)), 0);
        CHECKS.due("page 3 twice, of two kinds", startWith(twoPagesOf(2), Bytes.page(1, 3, 255, 7, 1)), 0);
        ByteBuffer more = ByteBuffer.wrap(Bytes.page(1, 0, 255, 7, 1));
        more.put(7, (byte) 5).put(31, (byte) 6);
        CHECKS.due("bytes that nobody looks at", startWith(twoPagesOf(2), Bytes.sealed(more)), 1);
    }
}
