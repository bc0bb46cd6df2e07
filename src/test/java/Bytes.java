import java.nio.ByteBuffer;

/** What the document says of a sector's bytes, written down a second time, apart from the class. */
final class Bytes {
    private Bytes() { }

    static int sum(byte[] sector) {
        int s = 0;
        for (int i = 4; i < 32; i++) {
            s ^= sector[i] & 0xFF;
            s = (s << 11) | (s >>> 21);
            s *= 0x85EBCA77;
        }
        return s;
    }

    static byte[] sealed(ByteBuffer sector) {
        sector.putInt(0, sum(sector.array()));
        return sector.array();
    }

    static byte[] page(int kind, int number, int source, long value, int transaction) {
        ByteBuffer b = ByteBuffer.allocate(32);
        b.put(4, (byte) kind).put(5, (byte) number).put(6, (byte) source);
        b.putLong(8, value).putInt(16, transaction);
        return sealed(b);
    }

    static byte[] head(long sectors, int transaction, int xor) {
        ByteBuffer b = ByteBuffer.allocate(32);
        b.put(4, (byte) 9).putLong(8, sectors).putInt(16, transaction).putInt(20, xor);
        return sealed(b);
    }

    static long derived(long value) {
        return ((value << 9) | (value >>> 55)) ^ 0x5DEECE66DL;
    }

    static byte[] of(KnowDisk x, int page) {
        byte[] b = new byte[32];
        for (int i = 0; i < 32; i++) {
            b[i] = x.at(page, i);
        }
        return b;
    }

    /** The sector of a page that is on the disk, by making its sum wrong for a while. */
    static int sectorOf(KnowDisk x, int page) {
        x.poke(page, 31, 1);
        int sector = x.wrong(2);
        x.poke(page, 31, 1);
        return sector;
    }

    /** Pokes a page's sector till it has these bytes. */
    static void force(KnowDisk x, int page, byte[] want) {
        byte[] is = of(x, page);
        for (int i = 0; i < 32; i++) {
            int mask = (is[i] ^ want[i]) & 0xFF;
            if (mask != 0) {
                x.poke(page, i, mask);
            }
        }
    }

    /**
     * Changes bytes 24 .. 31 of a sector so that its sum is right and is this one: two bytes are
     * run through forwards and two backwards till they meet, for one try of the others after another.
     */
    static byte[] withSum(byte[] sector, int target) {
        byte[] b = sector.clone();
        int inverse = 1;
        for (int k = 0; k < 5; k++) {
            inverse *= 2 - 0x85EBCA77 * inverse;
        }
        java.util.HashMap<Integer, Integer> back = new java.util.HashMap<>();
        for (int tail = 0; tail < 65536; tail++) {
            int s = target;
            s = Integer.rotateRight(s * inverse, 11) ^ (tail & 0xFF);
            s = Integer.rotateRight(s * inverse, 11) ^ (tail >>> 8);
            back.put(s, tail);
        }
        for (int tries = 0; tries < 1 << 24; tries++) {
            b[26] = (byte) (tries >>> 16);
            b[28] = (byte) (tries >>> 8);
            b[29] = (byte) tries;
            Integer tail = back.get(upTo(b, 30));
            if (tail != null) {
                b[30] = (byte) (tail >>> 8);
                b[31] = (byte) (int) tail;
                return sealed(ByteBuffer.wrap(b));
            }
        }
        throw new IllegalStateException("no bytes give this sum");
    }

    private static int upTo(byte[] b, int end) {
        int s = 0;
        for (int i = 4; i < end; i++) {
            s = Integer.rotateLeft(s ^ b[i] & 0xFF, 11) * 0x85EBCA77;
        }
        return s;
    }
}
