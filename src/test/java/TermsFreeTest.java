/** Terms: which sectors are FREE, a clause at a time; a page that is laid gets the least of them. */
final class TermsFreeTest {
    private static final Checks CHECKS = new Checks();

    public static void main(String[] args) {
        leastFromTwoOn();
        inTheOpenState();
        leftBeforeTheCommit();
        ofTheLatestSynced();
        foundByStart();
        notFoundByStart();
        ofOneBehind();
        kept();
        writesThatWait();
        lastSectorOfEachSize();
        allSixtyFour();
        CHECKS.end();
    }

    private static void isIn(String where, KnowDisk x, int page, int sector) {
        CHECKS.due(where + ": the sector of page " + page, Bytes.sectorOf(x, page), sector);
    }

    /** "the least sector from 2 on that is FREE": 0 and 1 are heads. */
    private static void leastFromTwoOn() {
        KnowDisk x = new KnowDisk(0);
        for (int page = 0; page < 6; page++) {
            CHECKS.due("page(1, -1, 0)", x.page(1, -1, 0), page);
        }
        CHECKS.due("8 sectors have six pages", x.page(1, -1, 0), -4);
        x.commit(1);
        x.sync();
        for (int page = 0; page < 6; page++) {
            isIn("in their order", x, page, page + 2);
        }
    }

    /** "not in the open state": a page laid anew does not get its own sector. */
    private static void inTheOpenState() {
        KnowDisk x = new KnowDisk(0);
        x.page(1, -1, 1);
        x.page(2, 0, 2);
        x.commit(1);
        x.sync();
        isIn("laid anew", x, 0, 3);
        x = new KnowDisk(0);
        for (int page = 0; page < 6; page++) {
            x.page(1, -1, 0);
        }
        CHECKS.due("its own sector is not free for it", x.page(1, 5, 1), -4);
        CHECKS.page("so it is as it was", x, 5, 1, 255, 0, 0);
    }

    /** A sector of a page laid since the commit is free as soon as the page has left it. */
    private static void leftBeforeTheCommit() {
        KnowDisk x = new KnowDisk(0);
        x.page(1, -1, 1);
        x.page(1, -1, 2);
        x.page(0, 0, 0);
        x.page(2, 1, 3);
        x.page(2, -1, 4);
        x.commit(1);
        x.sync();
        isIn("the first one went", x, 1, 2);
        isIn("the second one was laid anew", x, 0, 3);
    }

    /** "not in that of the latest transaction whose head reached the disk (by sync ..)". */
    private static void ofTheLatestSynced() {
        KnowDisk x = new KnowDisk(0);
        x.page(1, -1, 1);
        x.commit(1);
        x.sync();
        x.page(0, 0, 0);
        x.page(1, -1, 2);
        x.commit(2);
        x.page(1, -1, 3);
        x.commit(3);
        x.sync();
        isIn("2 is of the latest synced", x, 0, 3);
        isIn("still so behind a commit", x, 1, 4);
        x.page(1, -1, 4);
        x.commit(4);
        x.sync();
        isIn("free behind the sync", x, 2, 2);
    }

    /** "(.. or found by start)". */
    private static void foundByStart() {
        KnowDisk x = new KnowDisk(0);
        x.page(1, -1, 1);
        x.commit(1);
        x.sync();
        x.cut(0, 0);
        x.start();
        x.page(0, 0, 0);
        x.page(1, -1, 2);
        x.commit(2);
        x.sync();
        isIn("2 is of what start found", x, 0, 3);
        x = new KnowDisk(0);
        x.page(1, -1, 1);
        x.commit(1);
        x.cut(2, 0);
        x.start();
        x.page(1, 0, 2);
        x.page(1, -1, 3);
        x.commit(2);
        x.sync();
        isIn("also if no sync brought it", x, 0, 3);
        isIn("also if no sync brought it", x, 1, 4);
    }

    /** What start did not take is free: an older head's sectors, and those of writes that were lost. */
    private static void notFoundByStart() {
        KnowDisk x = new KnowDisk(0);
        x.page(1, -1, 1);
        x.commit(1);
        x.sync();
        x.page(1, 0, 2);
        x.commit(2);
        x.sync();
        x.cut(0, 0);
        CHECKS.due("start()", x.start(), 2);
        x.page(1, 0, 3);
        x.commit(3);
        x.sync();
        isIn("the sector of transaction 1", x, 0, 2);
        x.page(1, 0, 4);
        x.commit(4);
        x.page(1, 0, 5);
        x.commit(5);
        x.page(1, -1, 6);
        x.cut(1, 32);
        CHECKS.due("start()", x.start(), 4);
        isIn("transaction 4", x, 0, 3);
        x.page(1, -1, 7);
        x.page(1, -1, 8);
        x.commit(5);
        x.sync();
        isIn("nothing waits, nothing is laid", x, 1, 2);
        isIn("nothing waits, nothing is laid", x, 2, 4);
    }

    /** "nor of one behind it": of no transaction since, whether later ones have its pages or not. */
    private static void ofOneBehind() {
        KnowDisk x = new KnowDisk(0);
        for (int number = 1; number <= 6; number++) {
            x.page(1, number == 1 ? -1 : 0, number);
            CHECKS.due("commit(" + number + ")", x.commit(number), 2);
        }
        CHECKS.due("six are behind", x.page(1, 0, 7), -4);
        CHECKS.due("one goes", x.page(0, 0, 0), 0);
        CHECKS.due("of no help", x.page(1, -1, 7), -4);
        CHECKS.due("sync()", x.sync(), 6);
        for (int page = 0; page < 5; page++) {
            CHECKS.due("five are free", x.page(1, -1, 8), page);
        }
        CHECKS.due("6 is the latest synced now", x.page(1, -1, 8), -4);
    }

    /** "not in one that is kept": four of them, each with a sector of its own. */
    private static void kept() {
        KnowDisk x = new KnowDisk(0);
        for (int number = 1; number <= 4; number++) {
            x.page(1, number == 1 ? -1 : 0, number);
            x.commit(number);
            x.sync();
            CHECKS.due("backup(" + number + ")", x.backup(number), 1);
        }
        x.page(1, 0, 5);
        x.commit(5);
        x.sync();
        isIn("2 .. 5 are kept", x, 0, 6);
        x.page(1, 0, 6);
        CHECKS.due("and 6, 7 are used", x.page(1, -1, 0), -4);
        CHECKS.due("drop(3)", x.drop(3), 1);
        CHECKS.due("its sector is free", x.page(1, -1, 0), 1);
        CHECKS.due("no other one is", x.page(1, -1, 0), -4);
        x.commit(6);
        x.sync();
        isIn("that of transaction 3", x, 1, 4);
    }

    /** "and not one to which a write waits", also if its page has gone since. */
    private static void writesThatWait() {
        KnowDisk x = new KnowDisk(0);
        x.page(1, -1, 1);
        x.page(1, -1, 2);
        x.page(1, -1, 3);
        x.commit(1);
        for (int page = 0; page < 3; page++) {
            x.page(0, page, 0);
        }
        x.commit(2);
        for (int page = 0; page < 3; page++) {
            CHECKS.due("three are free", x.page(1, -1, 0), page);
        }
        CHECKS.due("to three a write waits", x.page(1, -1, 0), -4);
        x.sync();
        CHECKS.due("none waits", x.page(1, -1, 0), 3);
    }

    /** Bit k for sector k: the last sector of a disk is a sector of a state like others. */
    private static void lastSectorOfEachSize() {
        for (int size = 8; size <= 30; size++) {
            KnowDisk x = new KnowDisk(size - 8);
            for (int page = 0; page < size - 2; page++) {
                CHECKS.due("size " + size, x.page(1, -1, page), page);
            }
            CHECKS.due("size " + size + " has no more", x.page(1, -1, 0), -4);
            x.commit(size);
            x.cut(size - 1, 0);
            CHECKS.due("size " + size + ", start()", x.start(), size);
            isIn("size " + size, x, size - 3, size - 1);
            CHECKS.due("size " + size + " is full", x.page(1, -1, 0), -4);
        }
    }

    /** Sectors 31, 32 and 63, where bits of an int and of a long come to their end. */
    private static void allSixtyFour() {
        KnowDisk x = new KnowDisk(56);
        for (int page = 0; page < 29; page++) {
            x.page(1, -1, page);
        }
        x.commit(1);
        x.sync();
        for (int page = 0; page < 29; page++) {
            x.page(2, page, 100 + page);
        }
        x.commit(2);
        for (int page = 0; page < 4; page++) {
            CHECKS.due("60 .. 63", x.page(1, page, 200 + page), page);
        }
        CHECKS.due("all 62 are used", x.page(1, 4, 0), -4);
        CHECKS.due("also for a new one", x.page(1, -1, 0), -4);
        CHECKS.due("commit(3)", x.commit(3), 5);
        x.cut(35, 0);
        CHECKS.due("start()", x.start(), 3);
        for (int page = 0; page < 29; page++) {
            isIn("64 sectors", x, page, page < 4 ? 60 + page : 31 + page);
            CHECKS.page("64 sectors", x, page, page < 4 ? 1 : 2, 255, (page < 4 ? 200 : 100) + page, page < 4 ? 3 : 2);
        }
        CHECKS.due("poke(3, 31, 1)", x.poke(3, 31, 1), 1);
        CHECKS.due("wrong(2)", x.wrong(2), 63);
        x.cut(0, 0);
        CHECKS.due("63 is wrong, and the head of 2 is whole", x.start(), 2);
        isIn("the state of 2", x, 0, 31);
        isIn("the state of 2", x, 1, 32);
    }
}
