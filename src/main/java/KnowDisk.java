import java.util.ArrayList;
import java.util.Arrays;

/**
 * Pages on sectors with sums, changed by transactions that are whole behind any cut.
 *
 * <p>Two rows of sectors are held: what is on the disk, and what will be there when all has
 * reached it. Pages are read from the second one alone, so that a cut needs only to copy the
 * first one over it.
 */
public final class KnowDisk {
    private static final int NONE = -1;
    private static final int OUT_OF_RANGE = -2;
    private static final int NOT_IN_THIS_STATE = -3;
    private static final int NO_ROOM = -4;

    private static final int SECTOR_BYTES = 32;
    private static final int LEAST_SECTORS = 8;
    private static final int MOST_SECTORS = 64;
    private static final int HEADS = 2;

    private static final int KIND_AT = 4;
    private static final int NUMBER_AT = 5;
    private static final int SOURCE_AT = 6;
    private static final int LONG_AT = 8;
    private static final int TRANSACTION_AT = 16;
    private static final int XOR_AT = 20;

    private static final int GOES = 0;
    private static final int ROWS = 1;
    private static final int DERIVED = 3;
    private static final int HEAD = 9;
    private static final int NO_SOURCE = 255;

    private static final int MOST_PAGES = 30;
    private static final int MOST_KEPT = 4;
    private static final int LAST_NUMBER = 1000000;
    // Every write that waits was let wait by a call of its own (the one that laid the page, or
    // the commit of the head), so 512 calls never come near this.
    private static final int MOST_WAITING = 1024;

    private static final int SUM_TURN = 11;
    private static final int SUM_FACTOR = 0x85EBCA77;
    private static final int DERIVED_TURN = 9;
    private static final long DERIVED_MASK = 0x5DEECE66DL;

    /** The sectors from 2 on that the disk has, as bits. */
    private final long pageSectors;
    private final Sectors disk;
    private final Sectors reached;
    private final Waiting waiting;
    private final ArrayList<State> kept;
    /** For each page its sector in the open state, or NONE. */
    private final int[] places;

    private boolean running;
    private boolean saidFull;
    private boolean changed;
    private long open;
    /** The sectors of the open state whose pages were laid since the latest commit. */
    private long laid;
    private State latest;
    /** The sectors of the latest transaction whose head is on the disk, and of all behind it. */
    private long held;

    public KnowDisk(int sectors) {
        int count = LEAST_SECTORS + Math.floorMod(sectors, MOST_SECTORS - LEAST_SECTORS + 1);
        pageSectors = (-1L >>> (MOST_SECTORS - count)) & (-1L << HEADS);
        disk = new Sectors();
        reached = new Sectors();
        waiting = new Waiting();
        kept = new ArrayList<State>();
        places = new int[MOST_PAGES];
        Arrays.fill(places, NONE);
        latest = new State(0, 0L);
        running = true;
    }

    public int page(int kind, int of, long v) {
        if (!running) {
            return NOT_IN_THIS_STATE;
        }
        if (kind < GOES || kind > DERIVED) {
            return OUT_OF_RANGE;
        }
        boolean madeOfNone = of == NONE && kind != GOES && kind != DERIVED;
        if (!madeOfNone && !isPage(of)) {
            return NONE;
        }
        if (kind == GOES) {
            takeAway(of);
            return of;
        }
        if (kind == DERIVED) {
            return layDerivedOf(of);
        }
        return layIfRoom(madeOfNone ? leastFreeNumber() : of, kind, NO_SOURCE, v);
    }

    public int commit(int number) {
        if (!running || !changed) {
            return NOT_IN_THIS_STATE;
        }
        if (number <= latest.number || number > LAST_NUMBER) {
            return OUT_OF_RANGE;
        }
        int writes = Long.bitCount(laid) + 1;
        if (waiting.count() + writes > MOST_WAITING) {
            return NO_ROOM;
        }
        letPagesWait(number);
        letHeadWait(number);
        latest = new State(number, open);
        held |= open;
        laid = 0L;
        changed = false;
        return writes;
    }

    public int sync() {
        if (!running) {
            return NOT_IN_THIS_STATE;
        }
        waiting.reach(disk, waiting.count(), 0);
        held = latest.sectors;
        return latest.number;
    }

    public void cut(int keep, int tear) {
        if (!running) {
            return;
        }
        waiting.reach(disk, keep, tear);
        reached.become(disk);
        kept.clear();
        running = false;
    }

    public int start() {
        if (running) {
            return NOT_IN_THIS_STATE;
        }
        int head = headToOpen(isWhole(0), isWhole(1));
        latest = head == NONE ? new State(0, 0L) : stateOfHead(head);
        held = latest.sectors;
        openLatest();
        running = true;
        return latest.number;
    }

    public byte at(int page, int i) throws ArrayIndexOutOfBoundsException {
        if (!running || !isPage(page) || !isInSector(i)) {
            throw new ArrayIndexOutOfBoundsException("no such byte of a page");
        }
        return (byte) reached.byteOf(placeOf(page), i);
    }

    public int poke(int page, int i, int mask) {
        if (!running) {
            return NOT_IN_THIS_STATE;
        }
        if (!isPage(page)) {
            return NONE;
        }
        if (!isInSector(i) || mask < 1 || mask > 255) {
            return OUT_OF_RANGE;
        }
        int sector = placeOf(page);
        if (isIn(waiting.sectors() | laid, sector)) {
            return NOT_IN_THIS_STATE;
        }
        int then = disk.byteOf(sector, i) ^ mask;
        disk.put(sector, i, then);
        reached.put(sector, i, then);
        return then;
    }

    public int wrong(int what) {
        if (!running) {
            return NOT_IN_THIS_STATE;
        }
        switch (what) {
            case 0:
                return countOfWrongPages();
            case 1:
                return leastWrongPage();
            case 2:
                return placeOf(leastWrongPage());
            default:
                return OUT_OF_RANGE;
        }
    }

    public int backup(int number) {
        if (!running) {
            return NOT_IN_THIS_STATE;
        }
        if (number != latest.number) {
            return NONE;
        }
        if (kept.size() >= MOST_KEPT) {
            return NO_ROOM;
        }
        kept.add(latest);
        return Long.bitCount(latest.sectors);
    }

    public int drop(int version) {
        if (!running) {
            return NOT_IN_THIS_STATE;
        }
        int first = firstKept(version);
        if (first < 0 || first >= kept.size()) {
            return NONE;
        }
        int freeBefore = Long.bitCount(freeSectors());
        kept.remove(first);
        return Long.bitCount(freeSectors()) - freeBefore;
    }

    public int derived(int page) {
        if (!running) {
            return NOT_IN_THIS_STATE;
        }
        if (!isPage(page) || kindOf(page) != DERIVED) {
            return NONE;
        }
        int source = sourceOf(page);
        if (!isPage(source)) {
            return 0;
        }
        long due = derivedFrom(valueOf(source));
        if (reached.sumIsRight(placeOf(page)) && valueOf(page) == due) {
            return 0;
        }
        return layIfRoom(page, DERIVED, source, due) == NO_ROOM ? NO_ROOM : 1;
    }

    public boolean full(boolean on) {
        boolean was = saidFull;
        saidFull = on;
        return was;
    }

    private static boolean isIn(long sectors, int sector) {
        return (sectors >>> sector & 1L) != 0L;
    }

    private static boolean isInSector(int i) {
        return i >= 0 && i < SECTOR_BYTES;
    }

    private static long derivedFrom(long value) {
        return Long.rotateLeft(value, DERIVED_TURN) ^ DERIVED_MASK;
    }

    private int placeOf(int page) {
        return page >= 0 && page < places.length ? places[page] : NONE;
    }

    private boolean isPage(int page) {
        return placeOf(page) != NONE;
    }

    private int kindOf(int page) {
        return reached.byteOf(placeOf(page), KIND_AT);
    }

    private int sourceOf(int page) {
        return reached.byteOf(placeOf(page), SOURCE_AT);
    }

    private long valueOf(int page) {
        return reached.longOf(placeOf(page), LONG_AT);
    }

    private int leastFreeNumber() {
        for (int page = 0; page < MOST_PAGES; page++) {
            if (!isPage(page)) {
                return page;
            }
        }
        return NONE;
    }

    private long freeSectors() {
        long taken = open | held | waiting.sectors();
        for (int k = 0; k < kept.size(); k++) {
            taken |= kept.get(k).sectors;
        }
        return pageSectors & ~taken;
    }

    private int layDerivedOf(int source) {
        if (kindOf(source) == DERIVED) {
            return NONE;
        }
        return layIfRoom(leastFreeNumber(), DERIVED, source, derivedFrom(valueOf(source)));
    }

    private int layIfRoom(int page, int kind, int source, long value) {
        long free = freeSectors();
        // From the 30 pages the document excepts only a page that goes, not one laid anew.
        if (Long.bitCount(open) >= MOST_PAGES || free == 0L || saidFull) {
            return NO_ROOM;
        }
        // The sector is chosen before the page leaves its old one, which is still in the open
        // state and so not free.
        int sector = Long.numberOfTrailingZeros(free);
        takeAway(page);
        setPlace(page, sector);
        laid |= 1L << sector;
        changed = true;
        reached.clear(sector);
        reached.put(sector, KIND_AT, kind);
        reached.put(sector, NUMBER_AT, page);
        reached.put(sector, SOURCE_AT, source);
        reached.putLong(sector, LONG_AT, value);
        reached.seal(sector);
        return page;
    }

    private void takeAway(int page) {
        if (page < 0 || page >= places.length || places[page] == NONE) {
            return;
        }
        long others = ~(1L << places[page]);
        open &= others;
        laid &= others;
        changed = true;
        places[page] = NONE;
    }

    private void setPlace(int page, int sector) {
        if (page >= 0 && page < places.length) {
            places[page] = sector;
            open |= 1L << sector;
        }
    }

    private void letPagesWait(int number) {
        for (int sector = HEADS; sector < MOST_SECTORS; sector++) {
            if (isIn(laid, sector)) {
                reached.putInt(sector, TRANSACTION_AT, number);
                reached.seal(sector);
                waiting.add(new Write(sector, reached.copyOf(sector)));
            }
        }
    }

    private void letHeadWait(int number) {
        int head = number % 2 == 0 ? 0 : 1;
        reached.clear(head);
        reached.put(head, KIND_AT, HEAD);
        reached.putLong(head, LONG_AT, open);
        reached.putInt(head, TRANSACTION_AT, number);
        reached.putInt(head, XOR_AT, xorOfSums(reached, open));
        reached.seal(head);
        waiting.add(new Write(head, reached.copyOf(head)));
    }

    private static int xorOfSums(Sectors from, long sectors) {
        int xor = 0;
        for (int sector = 0; sector < MOST_SECTORS; sector++) {
            if (isIn(sectors, sector)) {
                xor ^= from.intOf(sector, 0);
            }
        }
        return xor;
    }

    private int headToOpen(boolean firstIsWhole, boolean secondIsWhole) {
        if (firstIsWhole && secondIsWhole) {
            return disk.intOf(1, TRANSACTION_AT) > disk.intOf(0, TRANSACTION_AT) ? 1 : 0;
        }
        if (firstIsWhole) {
            return 0;
        }
        return secondIsWhole ? 1 : NONE;
    }

    private State stateOfHead(int head) {
        return new State(disk.intOf(head, TRANSACTION_AT), disk.longOf(head, LONG_AT));
    }

    private boolean isWhole(int head) {
        if (disk.byteOf(head, KIND_AT) != HEAD || !disk.sumIsRight(head)) {
            return false;
        }
        long sectors = disk.longOf(head, LONG_AT);
        return (sectors & ~pageSectors) == 0L
                && havePagesThatDiffer(sectors)
                && xorOfSums(disk, sectors) == disk.intOf(head, XOR_AT);
    }

    private boolean havePagesThatDiffer(long sectors) {
        long seen = 0L;
        for (int sector = HEADS; sector < MOST_SECTORS; sector++) {
            if (isIn(sectors, sector)) {
                int page = disk.byteOf(sector, NUMBER_AT);
                if (!hasWholePage(sector) || isIn(seen, page)) {
                    return false;
                }
                seen |= 1L << page;
            }
        }
        return true;
    }

    private boolean hasWholePage(int sector) {
        int kind = disk.byteOf(sector, KIND_AT);
        return kind >= ROWS && kind <= DERIVED
                && disk.byteOf(sector, NUMBER_AT) < MOST_PAGES
                && disk.sumIsRight(sector);
    }

    private void openLatest() {
        Arrays.fill(places, NONE);
        open = 0L;
        laid = 0L;
        changed = false;
        for (int sector = HEADS; sector < MOST_SECTORS; sector++) {
            if (isIn(latest.sectors, sector)) {
                setPlace(disk.byteOf(sector, NUMBER_AT), sector);
            }
        }
    }

    private boolean isWrongPage(int page) {
        return isPage(page) && !reached.sumIsRight(placeOf(page));
    }

    private int countOfWrongPages() {
        int count = 0;
        for (int page = 0; page < MOST_PAGES; page++) {
            if (isWrongPage(page)) {
                count++;
            }
        }
        return count;
    }

    private int leastWrongPage() {
        for (int page = 0; page < MOST_PAGES; page++) {
            if (isWrongPage(page)) {
                return page;
            }
        }
        return NONE;
    }

    private int firstKept(int number) {
        for (int k = 0; k < kept.size(); k++) {
            if (kept.get(k).number == number) {
                return k;
            }
        }
        return NONE;
    }

    /** A transaction's number and the sectors that its pages have. */
    private static final class State {
        private final int number;
        private final long sectors;

        private State(int number, long sectors) {
            this.number = number;
            this.sectors = sectors;
        }
    }

    /** A write that waits: its bytes are a copy, for a later head may wait for the same sector. */
    private static final class Write {
        private final int sector;
        private final byte[] bytes;

        private Write(int sector, byte[] bytes) {
            this.sector = sector;
            this.bytes = bytes;
        }
    }

    /** The writes that wait, in their order. */
    private static final class Waiting {
        private final ArrayList<Write> writes = new ArrayList<Write>();
        private long sectors;

        private int count() {
            return writes.size();
        }

        private long sectors() {
            return sectors;
        }

        private void add(Write write) {
            writes.add(write);
            sectors |= 1L << write.sector;
        }

        /** The first ones reach the disk, the next one with its first bytes; none waits then. */
        private void reach(Sectors disk, int keep, int tear) {
            int whole = Math.min(Math.max(keep, 0), writes.size());
            for (int k = 0; k < whole; k++) {
                bring(disk, k, SECTOR_BYTES);
            }
            bring(disk, whole, tear);
            writes.clear();
            sectors = 0L;
        }

        private void bring(Sectors disk, int k, int bytes) {
            if (k >= 0 && k < writes.size()) {
                Write write = writes.get(k);
                disk.putFirst(write.sector, write.bytes, bytes);
            }
        }
    }

    /** Rows of 32 bytes, numbers with their highest byte first. */
    private static final class Sectors {
        private final byte[] bytes = new byte[MOST_SECTORS * SECTOR_BYTES];

        private static boolean hasSector(int sector) {
            return sector >= 0 && sector < MOST_SECTORS;
        }

        private int byteOf(int sector, int i) {
            return hasSector(sector) && isInSector(i) ? bytes[sector * SECTOR_BYTES + i] & 255 : 0;
        }

        private void put(int sector, int i, int value) {
            if (hasSector(sector) && isInSector(i)) {
                bytes[sector * SECTOR_BYTES + i] = (byte) value;
            }
        }

        private int intOf(int sector, int i) {
            int value = 0;
            for (int k = 0; k < 4; k++) {
                value = value << 8 | byteOf(sector, i + k);
            }
            return value;
        }

        private void putInt(int sector, int i, int value) {
            for (int k = 0; k < 4; k++) {
                put(sector, i + k, value >>> (24 - 8 * k));
            }
        }

        private long longOf(int sector, int i) {
            return (long) intOf(sector, i) << 32 | intOf(sector, i + 4) & 0xFFFFFFFFL;
        }

        private void putLong(int sector, int i, long value) {
            putInt(sector, i, (int) (value >>> 32));
            putInt(sector, i + 4, (int) value);
        }

        private int sumOf(int sector) {
            if (!hasSector(sector)) {
                return 0;
            }
            int sum = 0;
            int end = (sector + 1) * SECTOR_BYTES;
            for (int k = end - SECTOR_BYTES + KIND_AT; k < end; k++) {
                sum = Integer.rotateLeft(sum ^ bytes[k] & 255, SUM_TURN) * SUM_FACTOR;
            }
            return sum;
        }

        private boolean sumIsRight(int sector) {
            return intOf(sector, 0) == sumOf(sector);
        }

        private void seal(int sector) {
            putInt(sector, 0, sumOf(sector));
        }

        private void clear(int sector) {
            for (int i = 0; i < SECTOR_BYTES; i++) {
                put(sector, i, 0);
            }
        }

        private byte[] copyOf(int sector) {
            byte[] copy = new byte[SECTOR_BYTES];
            if (hasSector(sector)) {
                System.arraycopy(bytes, sector * SECTOR_BYTES, copy, 0, SECTOR_BYTES);
            }
            return copy;
        }

        private void putFirst(int sector, byte[] from, int count) {
            int length = Math.max(0, Math.min(count, Math.min(from.length, SECTOR_BYTES)));
            if (hasSector(sector)) {
                System.arraycopy(from, 0, bytes, sector * SECTOR_BYTES, length);
            }
        }

        private void become(Sectors other) {
            System.arraycopy(other.bytes, 0, bytes, 0, Math.min(bytes.length, other.bytes.length));
        }
    }
}
