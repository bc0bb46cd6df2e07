/**
 * Each refused call, told by its promise's sentence, answers as due and changes nothing: of two
 * objects with the same calls one is asked what it must refuse, and both answer the same then.
 */
final class RefusedCallsTest {
    private static final Checks CHECKS = new Checks();
    /** More than any run here lays. */
    private static final int PAGES = 12;
    private static final int[] FAR = {-3, -2, 30, 31, 32, 63, 64, 255, 256, Integer.MAX_VALUE, Integer.MIN_VALUE};

    public static void main(String[] args) {
        KnowDisk x = full();
        noSuchPage(x);
        sameFromHere("no such page", x, full());
        x = full();
        refusedOfRunning(x);
        sameFromHere("running", x, full());
        x = full();
        x.full(true);
        refusedOfFull(x);
        x.full(false);
        sameFromHere("said to be full", x, full());
        x = withoutFreeSector();
        refusedOfFull(x);
        sameFromHere("no free sector", x, withoutFreeSector());
        x = full();
        x.cut(2, 7);
        refusedOfStanding(x);
        KnowDisk y = full();
        y.cut(2, 7);
        CHECKS.due("start()", x.start(), y.start());
        sameFromHere("not running", x, y);
        CHECKS.end();
    }

    /** Pages on the disk, waiting and laid, one of them wrong, and four states that are kept. */
    private static KnowDisk full() {
        KnowDisk x = new KnowDisk(8);
        x.page(1, -1, 1);
        x.page(2, -1, 2);
        x.page(3, 0, 0);
        x.page(1, -1, 3);
        x.commit(10);
        x.sync();
        x.backup(10);
        x.page(1, 0, 4);
        x.commit(20);
        x.sync();
        x.backup(20);
        x.poke(1, 9, 3);
        x.page(2, 3, 5);
        x.commit(21);
        x.backup(21);
        x.backup(21);
        x.page(3, 3, 0);
        return x;
    }

    private static KnowDisk withoutFreeSector() {
        KnowDisk x = full();
        while (x.page(1, -1, 9) >= 0) {
            CHECKS.due("laid", x.wrong(0), 1);
        }
        return x;
    }

    private static void noSuchPage(KnowDisk x) {
        for (int far : FAR) {
            CHECKS.due("derived(" + far + ")", x.derived(far), -1);
            CHECKS.due("poke(" + far + ", 0, 1)", x.poke(far, 0, 1), -1);
            CHECKS.noByte(x, far, 0);
            for (int kind = 0; kind <= 3; kind++) {
                CHECKS.due("page(" + kind + ", " + far + ", 1)", x.page(kind, far, 1), -1);
            }
        }
        CHECKS.due("page(0, -1, 1)", x.page(0, -1, 1), -1);
        CHECKS.due("page(3, -1, 1)", x.page(3, -1, 1), -1);
        CHECKS.due("page(3, 2, 1)", x.page(3, 2, 1), -1);
    }

    private static void refusedOfRunning(KnowDisk x) {
        CHECKS.due("start()", x.start(), -3);
        for (int far : FAR) {
            CHECKS.due("page(" + far + ", 0, 1)", x.page(far, 0, 1), -2);
            CHECKS.due("wrong(" + far + ")", x.wrong(far), -2);
            CHECKS.due("backup(" + far + ")", x.backup(far), -1);
            CHECKS.due("drop(" + far + ")", x.drop(far), -1);
        }
        int[] numbers = {0, -1, 20, 21, 1000001, Integer.MAX_VALUE, Integer.MIN_VALUE};
        for (int number : numbers) {
            CHECKS.due("commit(" + number + ")", x.commit(number), -2);
        }
        CHECKS.due("poke(1, -1, 1)", x.poke(1, -1, 1), -2);
        CHECKS.due("poke(1, 32, 1)", x.poke(1, 32, 1), -2);
        CHECKS.due("poke(1, 0, 0)", x.poke(1, 0, 0), -2);
        CHECKS.due("poke(1, 0, 256)", x.poke(1, 0, 256), -2);
        CHECKS.due("poke(3, 0, 1), it waits", x.poke(3, 0, 1), -3);
        CHECKS.due("poke(4, 0, 1), it was laid", x.poke(4, 0, 1), -3);
        CHECKS.due("backup(21), four are kept", x.backup(21), -4);
        CHECKS.due("backup(20), not the latest", x.backup(20), -1);
        CHECKS.due("drop(0)", x.drop(0), -1);
        CHECKS.due("derived(0), not derived", x.derived(0), -1);
        CHECKS.due("derived(4), it is right", x.derived(4), 0);
        CHECKS.noByte(x, 0, -1);
        CHECKS.noByte(x, 0, 32);
    }

    private static void refusedOfFull(KnowDisk x) {
        CHECKS.due("page(1, -1, 1)", x.page(1, -1, 1), -4);
        CHECKS.due("page(2, 0, 1)", x.page(2, 0, 1), -4);
        CHECKS.due("page(1, 2, 1), derived till now", x.page(1, 2, 1), -4);
        CHECKS.due("page(3, 1, 1)", x.page(3, 1, 1), -4);
        CHECKS.due("derived(2)", x.derived(2), -4);
        CHECKS.due("derived(4), it is right", x.derived(4), 0);
        CHECKS.due("page(3, 2, 1)", x.page(3, 2, 1), -1);
        CHECKS.due("page(1, 29, 1)", x.page(1, 29, 1), -1);
        CHECKS.due("page(7, 29, 1)", x.page(7, 29, 1), -2);
    }

    private static void refusedOfStanding(KnowDisk x) {
        int[] any = {-1, 0, 1, 2, 3, 10, 20, 21, 22, Integer.MAX_VALUE, Integer.MIN_VALUE};
        for (int a : any) {
            for (int of = -1; of <= 5; of++) {
                CHECKS.due("page(" + a + ", " + of + ", 1)", x.page(a, of, 1), -3);
            }
            CHECKS.due("commit(" + a + ")", x.commit(a), -3);
            CHECKS.due("poke(" + a + ", 0, 1)", x.poke(a, 0, 1), -3);
            CHECKS.due("poke(0, " + a + ", 1)", x.poke(0, a, 1), -3);
            CHECKS.due("poke(0, 0, " + a + ")", x.poke(0, 0, a), -3);
            CHECKS.due("wrong(" + a + ")", x.wrong(a), -3);
            CHECKS.due("backup(" + a + ")", x.backup(a), -3);
            CHECKS.due("drop(" + a + ")", x.drop(a), -3);
            CHECKS.due("derived(" + a + ")", x.derived(a), -3);
            CHECKS.noByte(x, a, 0);
            CHECKS.due("sync()", x.sync(), -3);
            x.cut(a, a);
        }
    }

    /** Looks at all that can be seen, and goes on till a second start. */
    private static void sameFromHere(String where, KnowDisk x, KnowDisk y) {
        sameBytes(where, x, y);
        for (int page = 0; page < PAGES; page++) {
            CHECKS.due(where + ": derived(" + page + ")", x.derived(page), y.derived(page));
        }
        CHECKS.due(where + ": page(1, -1, 7)", x.page(1, -1, 7), y.page(1, -1, 7));
        CHECKS.due(where + ": commit(22)", x.commit(22), y.commit(22));
        CHECKS.due(where + ": commit(23)", x.commit(23), y.commit(23));
        int[] versions = {10, 20, 21, 21, 21};
        for (int version : versions) {
            CHECKS.due(where + ": drop(" + version + ")", x.drop(version), y.drop(version));
        }
        CHECKS.due(where + ": backup(22)", x.backup(22), y.backup(22));
        CHECKS.due(where + ": full(false)", x.full(false), y.full(false));
        x.cut(3, 9);
        y.cut(3, 9);
        CHECKS.due(where + ": start()", x.start(), y.start());
        sameBytes(where + ", started", x, y);
    }

    private static void sameBytes(String where, KnowDisk x, KnowDisk y) {
        for (int what = 0; what <= 2; what++) {
            CHECKS.due(where + ": wrong(" + what + ")", x.wrong(what), y.wrong(what));
        }
        for (int page = 0; page < PAGES; page++) {
            boolean isPage = isPage(y, page);
            CHECKS.due(where + ": page " + page + " is there", isPage(x, page), isPage);
            if (isPage && isPage(x, page)) {
                CHECKS.bytes(where, x, page, Bytes.of(y, page));
            }
        }
    }

    private static boolean isPage(KnowDisk x, int page) {
        try {
            x.at(page, 0);
            return true;
        } catch (ArrayIndexOutOfBoundsException e) {
            return false;
        }
    }
}
