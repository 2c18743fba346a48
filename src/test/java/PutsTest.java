/** Promises 1 to 4: a new object, begin, add, end. */
public final class PutsTest {
    public static void main(String[] args) {
        newObject();
        beginLengths();
        beginLimits();
        addBytes();
        addWrong();
        endDiffers();
        endFindsSoundBlob();
        endFindsLeastNumber();
        endNeedsRoom();
        endCountsOwnPartsOnce();
        endFindsPartMadeFirst();
        endFindsPartByBytesAsTheyAre();
        endClosesPut();
        manyBlobs();
        Check.finish();
    }

    private static int[] distinct(int length, int from) {
        int[] bytes = new int[length];
        for (int i = 0; i < length; i++) {
            bytes[i] = (from + i) & 255;
        }
        return bytes;
    }

    /** Puts blobs that share no part, long ones first, until not a byte more has room: how many bytes are kept then. */
    private static int filled(int room) {
        ContentStore x = new ContentStore(room);
        for (int blob = 0; blob < 25; blob++) {
            Check.put(x, Check.unshared(96, blob));
        }
        for (int length = 64; length > 0; length /= 2) {
            Check.put(x, Check.unshared(length, 100 + length));
        }
        return x.count(1);
    }

    private static void newObject() {
        Check.due("1: bytes in room 0", filled(0), 0);
        Check.due("1: bytes in room - 1", filled(-1), 0);
        Check.due("1: bytes in the least room", filled(Integer.MIN_VALUE), 0);
        Check.due("1: bytes in room 1", filled(1), 1);
        Check.due("1: bytes in room 97", filled(97), 97);
        Check.due("1: bytes in room 1999", filled(1999), 1999);
        Check.due("1: bytes in room 2000", filled(2000), 2000);
        Check.due("1: bytes in room 2001", filled(2001), 2000);
        Check.due("1: bytes in the most room", filled(Integer.MAX_VALUE), 2000);
        ContentStore x = new ContentStore(100);
        Check.due("1: NONE", ContentStore.NONE, -1);
        Check.due("1: parts at first", x.count(0), 0);
        Check.due("1: bytes at first", x.count(1), 0);
        Check.due("1: blobs at first", x.count(2), 0);
        Check.due("1: sweep at first", x.sweep(), 0);
        Check.due("1: pack at first", x.pack(), -1);
        Check.due("1: end at first", x.end(0), -1);
        Check.due("1: there at first", x.there(0), false);
        for (int action = 0; action < 20; action++) {
            Check.due("1: referred at first", x.referred(action), -1);
        }
    }

    private static void beginLengths() {
        ContentStore x = new ContentStore(100);
        Check.due("2: begin(-1)", x.begin(-1, 0L), -1);
        Check.due("2: begin(97)", x.begin(97, 0L), -1);
        Check.due("2: begin(least)", x.begin(Integer.MIN_VALUE, 0L), -1);
        Check.due("2: begin(most)", x.begin(Integer.MAX_VALUE, 0L), -1);
        Check.due("2: begin(0)", x.begin(0, 0L), 0);
        Check.due("2: begin(96)", x.begin(96, 0L), 1);
        Check.due("2: begin(1) with a number", x.begin(1, -7L), 2);
    }

    private static void beginLimits() {
        ContentStore x = new ContentStore(100);
        for (int put = 0; put < 4; put++) {
            Check.due("2: begin, open ones", x.begin(5, 0L), put);
        }
        Check.due("2: a fifth open one", x.begin(5, 0L), -1);
        Check.due("2: end one that differs", x.end(2), -2);
        Check.due("2: begin behind it", x.begin(5, 0L), 4);
        Check.due("2: again a fifth", x.begin(5, 0L), -1);
        for (int put = 5; put < 60; put++) {
            x.end(put - 1);
            Check.due("2: begin, in all", x.begin(0, 1L), put);
        }
        x.end(59);
        x.end(0);
        Check.due("2: a 61st", x.begin(0, 0L), -1);
        Check.due("2: no such put", x.end(60), -1);
        Check.due("2: an old one is still open", x.end(1), -2);
    }

    private static void addBytes() {
        ContentStore x = new ContentStore(100);
        x.begin(20, 0L);
        x.begin(3, 0L);
        Check.due("3: add 8", x.add(0, 0xFF02030405060780L, 8), 8);
        Check.due("3: add 1, higher bytes don't count", x.add(0, 0x123456L, 1), 9);
        Check.due("3: add 3 to another", x.add(1, 0x99AABBCCL, 3), 3);
        Check.due("3: add 7", x.add(0, -1L, 7), 16);
        Check.due("3: add 4", x.add(0, 0x0A0B0C0DL, 4), 20);
        Check.due("3: end", x.end(0), 0);
        Check.due("3: end another", x.end(1), 1);
        Check.due("3: bytes", Check.has(x, 0, 255, 2, 3, 4, 5, 6, 7, 128, 0x56,
                255, 255, 255, 255, 255, 255, 255, 10, 11, 12, 13), true);
        Check.due("3: bytes of another", Check.has(x, 1, 0xAA, 0xBB, 0xCC), true);
    }

    private static void addWrong() {
        ContentStore x = new ContentStore(100);
        x.begin(10, 0L);
        Check.due("3: n = 0", x.add(0, 1L, 0), -1);
        Check.due("3: n = 9", x.add(0, 1L, 9), -1);
        Check.due("3: n = -1", x.add(0, 1L, -1), -1);
        Check.due("3: n least", x.add(0, 1L, Integer.MIN_VALUE), -1);
        Check.due("3: n most", x.add(0, 1L, Integer.MAX_VALUE), -1);
        Check.due("3: put - 1", x.add(-1, 1L, 1), -1);
        Check.due("3: put 1", x.add(1, 1L, 1), -1);
        Check.due("3: put 60", x.add(60, 1L, 1), -1);
        Check.due("3: put least", x.add(Integer.MIN_VALUE, 1L, 1), -1);
        Check.due("3: put most", x.add(Integer.MAX_VALUE, 1L, 1), -1);
        Check.due("3: none came", x.add(0, 1L, 8), 8);
        Check.due("3: more than its length", x.add(0, 1L, 3), -1);
        Check.due("3: just its length", x.add(0, 0x0203L, 2), 10);
        Check.due("3: one more", x.add(0, 1L, 1), -1);
        Check.due("3: end", x.end(0), 0);
        Check.due("3: bytes", Check.has(x, 0, 0, 0, 0, 0, 0, 0, 0, 1, 2, 3), true);
        Check.due("3: not open any more", x.add(0, 1L, 1), -1);
        x.begin(0, 0L);
        Check.due("3: no length", x.add(1, 1L, 1), -1);
    }

    private static void endDiffers() {
        ContentStore x = new ContentStore(100);
        x.begin(3, 0L);
        x.add(0, 1L, 2);
        Check.due("4: too few bytes", x.end(0), -2);
        x.begin(3, 1L);
        x.add(1, 1L, 3);
        Check.due("4: digest xor 1", x.end(1), -2);
        x.begin(3, 1L << 63);
        x.add(2, 1L, 3);
        Check.due("4: digest xor the highest bit", x.end(2), -2);
        x.begin(0, 1L << 32);
        Check.due("4: no bytes, digest xor", x.end(3), -2);
        Check.due("4: no blobs", x.count(2), 0);
        Check.due("4: end(-1)", x.end(-1), -1);
        Check.due("4: end(4)", x.end(4), -1);
        Check.due("4: end(60)", x.end(60), -1);
        Check.due("4: end(least)", x.end(Integer.MIN_VALUE), -1);
        Check.due("4: end(most)", x.end(Integer.MAX_VALUE), -1);
        Check.due("4: a put that differs comes before no room", differsWithoutRoom(), -2);
    }

    private static int differsWithoutRoom() {
        ContentStore x = new ContentStore(0);
        x.begin(1, 5L);
        x.add(0, 1L, 1);
        return x.end(0);
    }

    private static void endFindsSoundBlob() {
        ContentStore x = new ContentStore(2000);
        int[] a = distinct(40, 1);
        Check.due("4: put", Check.put(x, a), 0);
        Check.due("4: put again", Check.put(x, a), 0);
        Check.due("4: a shorter one", Check.put(x, distinct(39, 1)), 1);
        Check.due("4: an empty one", Check.put(x), 2);
        Check.due("4: an empty one again", Check.put(x), 2);
        x.poison(0, 39, 1);
        int[] altered = a.clone();
        altered[39] ^= 1;
        Check.due("4: one that isn't sound is not it", Check.put(x, altered), 3);
        Check.due("4: nor for what it was", Check.put(x, a), 4);
        x.poison(4, 0, 4);
        x.poison(0, 0, 4);
        x.sweep();
        Check.due("4: a gone one is not it", Check.put(x, a), 5);
    }

    private static void endFindsLeastNumber() {
        ContentStore x = new ContentStore(2000);
        int[] a = distinct(10, 1);
        Check.put(x, a);
        x.poison(0, 2, 8);
        Check.due("4: put beside a poisoned one", Check.put(x, a), 1);
        x.poison(0, 2, 8);
        Check.due("4: both are sound: the least", Check.put(x, a), 0);
        x.poison(0, 3, 8);
        Check.due("4: only the second is sound", Check.put(x, a), 1);
    }

    private static void endNeedsRoom() {
        ContentStore x = new ContentStore(36);
        Check.due("4: 20 bytes", Check.put(x, distinct(20, 0)), 0);
        Check.due("4: 17 more", Check.put(x, distinct(17, 100)), -3);
        Check.due("4: nothing was kept of it", x.count(1), 20);
        Check.due("4: 16 more", Check.put(x, distinct(16, 100)), 1);
        Check.due("4: parts that are there need none",
                Check.put(x, Check.join(distinct(16, 100), distinct(16, 0), distinct(4, 16))), 2);
        Check.due("4: one byte more", Check.put(x, 7), -3);
        Check.due("4: no bytes need none", Check.put(x), 3);
        Check.due("4: bytes", x.count(1), 36);
        Check.due("4: one that is there needs none", Check.put(x, distinct(20, 0)), 0);
    }

    private static void endCountsOwnPartsOnce() {
        ContentStore x = new ContentStore(16);
        Check.due("4: the same part six times", Check.put(x, Check.row(96, 9)), 0);
        Check.due("4: parts", x.count(0), 1);
        Check.due("4: bytes", x.count(1), 16);
        x.sweep();
        Check.due("4: parts are gone", x.count(0), 0);
        Check.due("4: a shorter last part is another", Check.put(x, Check.row(24, 9)), -3);
        Check.due("4: the first in its place", Check.put(x, Check.row(32, 8)), 1);
        int[] uneven = distinct(16, 30);
        x.sweep();
        Check.due("4: a part of unlike bytes twice", Check.put(x, Check.join(uneven, uneven)), 2);
        ContentStore y = new ContentStore(24);
        Check.due("4: a shorter last part has room", Check.put(y, Check.row(24, 9)), 0);
        Check.due("4: its parts", y.count(0), 2);
        Check.due("4: its bytes", y.count(1), 24);
    }

    private static void endFindsPartMadeFirst() {
        ContentStore x = new ContentStore(2000);
        int[] a = Check.row(16, 1);
        int[] tail = {5};
        Check.put(x, a);
        x.poison(0, 0, 6);
        Check.put(x, a);
        x.poison(0, 0, 6);
        Check.due("4: alike, but two", x.count(0), 2);
        Check.put(x, Check.join(a, tail));
        Check.due("4: the one made first is found", x.count(3), 2);
        Check.due("4: and not the other", x.count(4), 1);
        x.refer(0, 1);
        x.sweep();
        Check.due("4: one is left", x.count(0), 1);
        Check.put(x, Check.join(a, a, tail));
        Check.due("4: the one that is left is found", x.count(4), 2);
    }

    private static void endFindsPartByBytesAsTheyAre() {
        ContentStore x = new ContentStore(2000);
        Check.put(x, Check.row(16, 1));
        x.poison(0, 15, 1 ^ 7);
        int[] altered = Check.row(16, 1);
        altered[15] = 7;
        Check.due("4: bytes of an altered part", Check.put(x, altered), 1);
        Check.due("4: share it", x.count(3), 2);
        Check.due("4: and no part is made", x.count(0), 1);
        Check.due("4: the new one is sound", x.sound(1), true);
        Check.due("4: the old one is not", x.sound(0), false);
    }

    private static void endClosesPut() {
        ContentStore x = new ContentStore(4);
        x.begin(1, 9L);
        Check.due("4: differs", x.end(0), -2);
        Check.due("4: is closed then", x.end(0), -1);
        x.begin(5, 0L);
        x.add(1, 0x0102030405L, 5);
        Check.due("4: no room", x.end(1), -3);
        Check.due("4: is closed then too", x.end(1), -1);
        for (int put = 2; put < 6; put++) {
            Check.due("4: four may be open again", x.begin(0, 0L), put);
        }
        Check.due("4: but no more", x.begin(0, 0L), -1);
        Check.due("4: the last first", x.end(5), 0);
        Check.due("4: the first last", x.end(2), 0);
    }

    private static void manyBlobs() {
        ContentStore x = new ContentStore(2000);
        for (int blob = 0; blob < 60; blob++) {
            Check.due("4: blobs one behind the other", Check.put(x, blob), blob);
        }
        Check.due("4: blobs", x.count(2), 60);
        Check.due("4: the last one", x.get(59, 0), 59);
        Check.due("4: sweep", x.sweep(), 60);
    }
}
