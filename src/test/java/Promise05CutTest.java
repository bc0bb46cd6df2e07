/** Promise 5: after any cut the disk has just what reached it. */
final class Promise05CutTest {
    private static final Checks CHECKS = new Checks();

    public static void main(String[] args) {
        everyCut();
        tearsOfAHead();
        sameHeadTwice();
        negativeKeep();
        tornPage();
        nothingElseIsLeft();
        lostOverAnOldPage();
        nothingWaits();
        manyWait();
        notRunning();
        CHECKS.end();
    }

    /** 1 is on the disk, 2 and 3 wait with three and two writes. */
    private static KnowDisk prepared() {
        KnowDisk x = new KnowDisk(4);
        x.page(1, -1, 11);
        x.page(2, -1, 12);
        x.commit(1);
        x.sync();
        x.page(1, 0, 21);
        x.page(3, 1, 0);
        x.commit(2);
        x.page(0, 1, 0);
        x.page(2, 0, 31);
        x.commit(3);
        x.page(1, -1, 41);
        return x;
    }

    /** "The first keep of the writes that wait", "(0 .. 32; others count as the nearest of these)". */
    private static void everyCut() {
        int[] tears = {Integer.MIN_VALUE, -1, 0, 1, 4, 5, 8, 15, 16, 19, 20, 23, 24, 31, 32, 33, Integer.MAX_VALUE};
        int[] keeps = {Integer.MIN_VALUE, -1, 0, 1, 2, 3, 4, 5, 6, Integer.MAX_VALUE};
        for (int keep : keeps) {
            for (int tear : tears) {
                KnowDisk x = prepared();
                x.cut(keep, tear);
                // Behind byte 24 of a head, and behind byte 20 of a page, there are 0s as before.
                int whole = Math.max(0, keep);
                int next = whole < 5 && tear >= 24 ? whole + 1 : whole;
                int due = next >= 5 ? 3 : next >= 3 ? 2 : 1;
                // The head of 3 goes over that of 1, but that of 2 is there by then.
                String where = "cut(" + keep + ", " + tear + ")";
                CHECKS.due(where + ", start()", x.start(), due);
                CHECKS.due(where + ", wrong(0)", x.wrong(0), 0);
                hasStateOf(where, x, due);
            }
        }
    }

    private static void hasStateOf(String where, KnowDisk x, int transaction) {
        if (transaction == 1) {
            CHECKS.page(where, x, 0, 1, 255, 11, 1);
        } else if (transaction == 2) {
            CHECKS.page(where, x, 0, 1, 255, 21, 2);
        } else {
            CHECKS.page(where, x, 0, 2, 255, 31, 3);
        }
        if (transaction == 3) {
            CHECKS.noByte(x, 1, 0);
        } else {
            CHECKS.page(where, x, 1, 2, 255, 12, 1);
        }
        if (transaction == 1) {
            CHECKS.noByte(x, 2, 0);
        } else {
            CHECKS.page(where, x, 2, 3, 1, Bytes.derived(12), 2);
        }
        CHECKS.noByte(x, 3, 0);
    }

    /** A head of no pages has nothing but 0s behind its number. */
    private static void tearsOfAHead() {
        int[] numbers = {1, 255, 256, 65536, 983040};
        for (int number : numbers) {
            int needed = number == 65536 || number == 983040 ? 18 : number == 256 ? 19 : 20;
            for (int tear = 0; tear <= 32; tear++) {
                KnowDisk x = new KnowDisk(0);
                x.page(1, -1, 1);
                x.page(0, 0, 0);
                x.commit(number);
                x.cut(0, tear);
                CHECKS.due("cut(0, " + tear + ") of the head of " + number, x.start(), tear >= needed ? number : 0);
            }
        }
    }

    /** Odd numbers have the same head: it is torn, and there is no other. */
    private static void sameHeadTwice() {
        KnowDisk x = new KnowDisk(4);
        x.page(1, -1, 1);
        x.commit(1);
        x.sync();
        x.page(1, -1, 2);
        x.commit(3);
        x.cut(1, 10);
        CHECKS.due("the head of 3 torn over that of 1", x.start(), 0);
        x = new KnowDisk(4);
        x.page(1, -1, 1);
        x.commit(2);
        x.sync();
        x.page(1, -1, 2);
        x.commit(4);
        x.cut(1, 10);
        CHECKS.due("the head of 4 torn over that of 2", x.start(), 0);
        x = new KnowDisk(4);
        x.page(1, -1, 1);
        x.commit(2);
        x.sync();
        x.page(1, -1, 2);
        x.commit(5);
        x.cut(1, 10);
        CHECKS.due("the head of 5 torn beside that of 2", x.start(), 2);
    }

    /** Fewer than no write can't reach the disk: the next one is the first. */
    private static void negativeKeep() {
        int[] keeps = {-1, Integer.MIN_VALUE};
        for (int keep : keeps) {
            KnowDisk x = new KnowDisk(4);
            x.page(1, -1, 1);
            x.page(0, 0, 0);
            x.commit(7);
            x.cut(keep, 32);
            CHECKS.due("cut(" + keep + ", 32): the next one is the first", x.start(), 7);
        }
    }

    /** A page torn over an older one in the same sector: what is left of both is nobody's. */
    private static void tornPage() {
        for (int tear = 0; tear <= 32; tear++) {
            KnowDisk x = new KnowDisk(0);
            x.page(1, -1, 0x1111111111111111L);
            x.commit(1);
            x.sync();
            x.page(0, 0, 0);
            x.commit(2);
            x.sync();
            x.page(1, -1, 0x2222222222222222L);
            x.commit(4);
            x.cut(0, tear);
            CHECKS.due("cut(0, " + tear + ") of a page", x.start(), 2);
            CHECKS.noByte(x, 0, 0);
            x.page(1, -1, 0x3333333333333333L);
            CHECKS.page("laid over it", x, 0, 1, 255, 0x3333333333333333L, 0);
        }
    }

    /** "others are lost": the sector has its old page, of an old head that is the only whole one. */
    private static void lostOverAnOldPage() {
        for (int commits = 0; commits <= 1; commits++) {
            KnowDisk x = new KnowDisk(0);
            x.page(2, -1, 11);
            x.commit(1);
            x.sync();
            x.page(1, 0, 12);
            x.commit(2);
            x.sync();
            x.poke(0, 31, 1);
            CHECKS.due("laid over the page of 1", x.page(1, -1, 13), 1);
            CHECKS.page("as it will be", x, 1, 1, 255, 13, 0);
            if (commits == 1) {
                CHECKS.due("commit(4)", x.commit(4), 2);
            }
            x.cut(0, 0);
            CHECKS.due("2 has a wrong page", x.start(), 1);
            CHECKS.page("the page of 1", x, 0, 2, 255, 11, 1);
            CHECKS.noByte(x, 1, 0);
            CHECKS.due("no page is wrong", x.wrong(0), 0);
            x.page(3, 0, 0);
            CHECKS.page("derived of what is on the disk", x, 1, 3, 0, Bytes.derived(11), 0);
        }
    }

    /** No write waits: none reaches the disk, and none is the next one. */
    private static void nothingWaits() {
        int[] any = {Integer.MIN_VALUE, -1, 0, 1, 32, Integer.MAX_VALUE};
        for (int keep : any) {
            for (int tear : any) {
                KnowDisk x = new KnowDisk(0);
                x.page(1, -1, 1);
                x.cut(keep, tear);
                CHECKS.due("cut(" + keep + ", " + tear + ") of a new one", x.start(), 0);
                CHECKS.noByte(x, 0, 0);
                x.page(1, -1, 2);
                x.commit(3);
                x.sync();
                x.page(1, 0, 4);
                x.cut(keep, tear);
                CHECKS.due("cut(" + keep + ", " + tear + ") behind a sync", x.start(), 3);
                CHECKS.page("it is there", x, 0, 1, 255, 2, 3);
            }
        }
    }

    /** As many heads as 512 calls let wait. */
    private static void manyWait() {
        int[] keeps = {0, 1, 2, 168, 169, 170, 171};
        for (int keep : keeps) {
            KnowDisk x = new KnowDisk(0);
            for (int number = 1; number <= 170; number++) {
                x.page(1, -1, number);
                x.page(0, 0, 0);
                CHECKS.due("commit(" + number + ")", x.commit(number), 1);
            }
            x.cut(keep, 0);
            CHECKS.due("cut(" + keep + ", 0) of 170 heads", x.start(), Math.min(keep, 170));
        }
    }

    /** "others are lost; the disk does not run any more, nothing is kept". */
    private static void nothingElseIsLeft() {
        KnowDisk x = new KnowDisk(0);
        x.page(1, -1, 1);
        x.commit(1);
        x.sync();
        for (int k = 0; k < 4; k++) {
            CHECKS.due("backup(1)", x.backup(1), 1);
        }
        x.page(1, -1, 2);
        x.commit(2);
        x.cut(0, 0);
        CHECKS.due("start()", x.start(), 1);
        CHECKS.due("nothing is kept", x.drop(1), -1);
        CHECKS.due("so there is room", x.backup(1), 1);
        CHECKS.due("sync() brings nothing", x.sync(), 1);
        CHECKS.due("nothing waits for the sector", x.page(1, -1, 3), 1);
        for (int page = 2; page < 6; page++) {
            CHECKS.due("nor for others", x.page(1, -1, 3), page);
        }
        CHECKS.due("all are laid", x.page(1, -1, 3), -4);
    }

    /** "Nothing when it does not run." */
    private static void notRunning() {
        KnowDisk x = new KnowDisk(4);
        x.page(1, -1, 1);
        x.commit(1);
        x.cut(1, 31);
        x.cut(5, 32);
        CHECKS.due("the second cut does nothing", x.start(), 1);
        x = new KnowDisk(4);
        x.page(1, -1, 1);
        x.commit(1);
        x.cut(1, 16);
        x.cut(5, 32);
        CHECKS.due("the second cut does nothing", x.start(), 0);
        CHECKS.noByte(x, 0, 0);
    }
}
