import java.util.ArrayList;
import java.util.Arrays;
import java.util.HashMap;
import java.util.List;
import java.util.Map;
import java.util.TreeMap;
import java.util.TreeSet;

/**
 * The document written down a second time with the Java library, sentence by sentence and with no
 * sets of bits: what the class answers is held against it.
 */
final class Model {
    /** A state: which page is in which sector. */
    private static final class State {
        final int number;
        final TreeMap<Integer, Integer> pages;

        State(int number, Map<Integer, Integer> pages) {
            this.number = number;
            this.pages = new TreeMap<>(pages);
        }
    }

    private final int sectors;
    private final byte[][] disk;
    /** Pages laid since the latest commit, by their sectors. */
    private final TreeMap<Integer, byte[]> laid = new TreeMap<>();
    private final List<Map.Entry<Integer, byte[]>> waiting = new ArrayList<>();
    private final List<State> kept = new ArrayList<>();
    /** The latest transaction whose head reached the disk, and those behind it. */
    private final List<State> transactions = new ArrayList<>();
    private TreeMap<Integer, Integer> open = new TreeMap<>();
    private boolean running = true;
    private boolean changed;
    private boolean full;

    Model(int sectors) {
        this.sectors = (int) ((((long) sectors % 57) + 57) % 57) + 8;
        disk = new byte[this.sectors][32];
        transactions.add(new State(0, open));
    }

    private State latest() {
        return transactions.get(transactions.size() - 1);
    }

    /** A page's bytes as they are or will be. */
    private byte[] bytes(int page) {
        int sector = open.get(page);
        if (laid.containsKey(sector)) {
            return laid.get(sector);
        }
        byte[] last = disk[sector];
        for (Map.Entry<Integer, byte[]> write : waiting) {
            if (write.getKey() == sector) {
                last = write.getValue();
            }
        }
        return last;
    }

    private static int number(byte[] b, int i) {
        return (b[i] & 255) << 24 | (b[i + 1] & 255) << 16 | (b[i + 2] & 255) << 8 | b[i + 3] & 255;
    }

    private static long value(byte[] b) {
        return (long) number(b, 8) << 32 | number(b, 12) & 0xFFFFFFFFL;
    }

    private static boolean right(byte[] b) {
        return number(b, 0) == Bytes.sum(b);
    }

    private TreeSet<Integer> free() {
        TreeSet<Integer> free = new TreeSet<>();
        for (int sector = 2; sector < sectors; sector++) {
            free.add(sector);
        }
        free.removeAll(open.values());
        for (State s : transactions) {
            free.removeAll(s.pages.values());
        }
        for (State s : kept) {
            free.removeAll(s.pages.values());
        }
        for (Map.Entry<Integer, byte[]> write : waiting) {
            free.remove(write.getKey());
        }
        return free;
    }

    private boolean noRoom() {
        return open.size() == 30 || free().isEmpty() || full;
    }

    private void lay(int page, int kind, int source, long value) {
        int sector = free().first();
        if (open.containsKey(page)) {
            laid.remove(open.get(page));
        }
        open.put(page, sector);
        laid.put(sector, Bytes.page(kind, page, source, value, 0));
        changed = true;
    }

    int page(int kind, int of, long v) {
        if (!running) {
            return -3;
        }
        if (kind != 0 && kind != 1 && kind != 2 && kind != 3) {
            return -2;
        }
        boolean there = open.containsKey(of);
        if (kind == 0) {
            if (!there) {
                return -1;
            }
            laid.remove(open.remove(of));
            changed = true;
            return of;
        }
        if (kind == 3 && (!there || bytes(of)[4] == 3)) {
            return -1;
        }
        if (kind != 3 && of != -1 && !there) {
            return -1;
        }
        if (noRoom()) {
            return -4;
        }
        int page = of;
        if (kind == 3 || of == -1) {
            page = 0;
            while (open.containsKey(page)) {
                page++;
            }
        }
        if (kind == 3) {
            lay(page, 3, of, Bytes.derived(value(bytes(of))));
        } else {
            lay(page, kind, 255, v);
        }
        return page;
    }

    int commit(int number) {
        if (!running || !changed) {
            return -3;
        }
        if (number <= latest().number || number > 1000000) {
            return -2;
        }
        for (Map.Entry<Integer, byte[]> e : laid.entrySet()) {
            byte[] b = e.getValue();
            waiting.add(Map.entry(e.getKey(), Bytes.page(b[4], b[5], b[6] & 255, value(b), number)));
        }
        int writes = laid.size() + 1;
        laid.clear();
        changed = false;
        long bits = 0;
        int xor = 0;
        for (Map.Entry<Integer, Integer> e : open.entrySet()) {
            bits |= 1L << e.getValue();
            xor ^= number(bytes(e.getKey()), 0);
        }
        waiting.add(Map.entry(number % 2, Bytes.head(bits, number, xor)));
        transactions.add(new State(number, open));
        return writes;
    }

    int sync() {
        if (!running) {
            return -3;
        }
        for (Map.Entry<Integer, byte[]> write : waiting) {
            disk[write.getKey()] = write.getValue().clone();
        }
        waiting.clear();
        State latest = latest();
        transactions.clear();
        transactions.add(latest);
        return latest.number;
    }

    void cut(int keep, int tear) {
        if (!running) {
            return;
        }
        for (int k = 0; k < waiting.size(); k++) {
            int bytes = k < keep ? 32 : k == Math.max(keep, 0) ? Math.max(0, Math.min(32, tear)) : 0;
            System.arraycopy(waiting.get(k).getValue(), 0, disk[waiting.get(k).getKey()], 0, bytes);
        }
        waiting.clear();
        laid.clear();
        kept.clear();
        running = false;
    }

    /** The state of a head, or null where it is not whole. */
    private State whole(byte[] head) {
        if (head[4] != 9 || !right(head)) {
            return null;
        }
        TreeMap<Integer, Integer> pages = new TreeMap<>();
        int xor = 0;
        for (int sector = 0; sector < 64; sector++) {
            if ((value(head) >>> sector & 1) == 0) {
                continue;
            }
            if (sector < 2 || sector >= sectors || !right(disk[sector])) {
                return null;
            }
            int kind = disk[sector][4];
            int page = disk[sector][5];
            if (kind < 1 || kind > 3 || page < 0 || page > 29 || pages.put(page, sector) != null) {
                return null;
            }
            xor ^= number(disk[sector], 0);
        }
        return xor == number(head, 20) ? new State(number(head, 16), pages) : null;
    }

    int start() {
        if (running) {
            return -3;
        }
        State best = whole(disk[0]);
        State other = whole(disk[1]);
        if (best == null || other != null && other.number > best.number) {
            best = other;
        }
        if (best == null) {
            best = new State(0, new HashMap<>());
        }
        transactions.clear();
        transactions.add(best);
        open = new TreeMap<>(best.pages);
        changed = false;
        running = true;
        return best.number;
    }

    /** 1000 where there is no such byte. */
    int at(int page, int i) {
        return running && open.containsKey(page) && i >= 0 && i <= 31 ? bytes(page)[i] : 1000;
    }

    int poke(int page, int i, int mask) {
        if (!running) {
            return -3;
        }
        if (!open.containsKey(page)) {
            return -1;
        }
        if (i < 0 || i > 31 || mask < 1 || mask > 255) {
            return -2;
        }
        int sector = open.get(page);
        for (Map.Entry<Integer, byte[]> write : waiting) {
            if (write.getKey() == sector) {
                return -3;
            }
        }
        if (laid.containsKey(sector)) {
            return -3;
        }
        disk[sector][i] = (byte) (disk[sector][i] ^ mask);
        return disk[sector][i] & 255;
    }

    int wrong(int what) {
        if (!running) {
            return -3;
        }
        if (!Arrays.asList(0, 1, 2).contains(what)) {
            return -2;
        }
        TreeSet<Integer> wrong = new TreeSet<>();
        for (int page : open.keySet()) {
            if (!right(bytes(page))) {
                wrong.add(page);
            }
        }
        if (what == 0) {
            return wrong.size();
        }
        return wrong.isEmpty() ? -1 : what == 1 ? wrong.first() : open.get(wrong.first());
    }

    int backup(int number) {
        if (!running) {
            return -3;
        }
        if (latest().number != number) {
            return -1;
        }
        if (kept.size() == 4) {
            return -4;
        }
        kept.add(latest());
        return latest().pages.size();
    }

    int drop(int version) {
        if (!running) {
            return -3;
        }
        for (State s : kept) {
            if (s.number == version) {
                int before = free().size();
                kept.remove(s);
                return free().size() - before;
            }
        }
        return -1;
    }

    int derived(int page) {
        if (!running) {
            return -3;
        }
        if (!open.containsKey(page) || bytes(page)[4] != 3) {
            return -1;
        }
        int source = bytes(page)[6] & 255;
        if (!open.containsKey(source)) {
            return 0;
        }
        long due = Bytes.derived(value(bytes(source)));
        if (right(bytes(page)) && value(bytes(page)) == due) {
            return 0;
        }
        if (noRoom()) {
            return -4;
        }
        lay(page, 3, source, due);
        return 1;
    }

    boolean full(boolean on) {
        boolean was = full;
        full = on;
        return was;
    }
}
