/** The bounds that the document names for promises 1 to 4, and for puts, parts and room in its terms. */
public final class PutBoundsTest {
    private static final int[] FAR = {Integer.MIN_VALUE, Integer.MIN_VALUE + 1, -97, -2, -1};

    public static void main(String[] args) {
        roomBelow();
        roomAbove();
        beginLength();
        beginSixtyInAll();
        beginSixtyGoneOnesToo();
        beginFourOpen();
        beginFourOpenOfTheLast();
        addOneToEight();
        addOtherNumbers();
        addUpToLength();
        addToNoOpenPut();
        addBytesFrom0To255();
        endTooFewBytes();
        endOtherDigest();
        endDiffersFirst();
        endSoundBlobNeedsNoRoom();
        endLeastNumber();
        endOnlySoundBlobs();
        endWithoutBytes();
        endRoomForMissingParts();
        endNoRoomKeepsNothing();
        endRoomBesideOpenPuts();
        endSixtyBlobs();
        endClosesInAnyCase();
        endNoSuchPut();
        partsOfSixteen();
        partsShorterAreOthers();
        partsMadeFirst();
        partsKeptAsLongAsABlobHasThem();
        Check.finish();
    }

    /** A new store whose one blob has these bytes, with just the room for it. */
    private static ContentStore just(int room, int... bytes) {
        ContentStore x = new ContentStore(room);
        Check.due("the first blob", Check.put(x, bytes), 0);
        return x;
    }

    private static void roomBelow() {
        Check.promise(1, "0 .. 2000; beyond that the nearest");
        int[] rooms = {Integer.MIN_VALUE, -2000, -1, 0};
        for (int room : rooms) {
            ContentStore x = new ContentStore(room);
            Check.due("one byte in room " + room, Check.put(x, 7), -3);
            Check.due("no bytes in room " + room, Check.put(x), 0);
        }
        ContentStore x = new ContentStore(1);
        Check.due("two bytes in room 1", Check.put(x, 7, 7), -3);
        Check.due("one byte in room 1", Check.put(x, 7), 0);
        Check.due("one more in room 1", Check.put(x, 8), -3);
    }

    private static void roomAbove() {
        Check.promise(1, "0 .. 2000; beyond that the nearest");
        ContentStore x = withBytes1984(1998);
        Check.due("1999 bytes in room 1998", Check.put(x, Check.unshared(15, 30)), -3);
        Check.due("1998 bytes in room 1998", Check.put(x, Check.unshared(14, 30)), 21);
        x = withBytes1984(1999);
        Check.due("2000 bytes in room 1999", Check.put(x, Check.unshared(16, 30)), -3);
        Check.due("1999 bytes in room 1999", Check.put(x, Check.unshared(15, 30)), 21);
        int[] rooms = {2000, 2001, 4000, Integer.MAX_VALUE};
        for (int room : rooms) {
            x = withBytes1984(room);
            Check.due("2001 bytes in room " + room, Check.put(x, Check.unshared(17, 30)), -3);
            Check.due("2000 bytes in room " + room, Check.put(x, Check.unshared(16, 30)), 21);
            Check.due("one more in room " + room, Check.put(x, 31), -3);
            Check.due("bytes kept in room " + room, x.count(1), 2000);
            Check.due("parts kept in room " + room, x.count(0), 125);
        }
    }

    private static ContentStore withBytes1984(int room) {
        ContentStore x = new ContentStore(room);
        for (int blob = 0; blob < 20; blob++) {
            Check.due("1920 bytes", Check.put(x, Check.unshared(96, blob)), blob);
        }
        Check.due("64 more", Check.put(x, Check.unshared(64, 20)), 20);
        return x;
    }

    private static void beginLength() {
        Check.promise(2, "NONE if LENGTH isn't as told (0 .. 96)");
        ContentStore x = new ContentStore(2000);
        for (int length : FAR) {
            Check.due("begin(" + length + ")", x.begin(length, 0L), -1);
        }
        int[] above = {97, 98, 256, Integer.MAX_VALUE};
        for (int length : above) {
            Check.due("begin(" + length + ")", x.begin(length, 0L), -1);
        }
        Check.due("begin(0), and none refused has a number", x.begin(0, 0L), 0);
        Check.due("begin(1)", x.begin(1, 0L), 1);
        Check.due("begin(95)", x.begin(95, 0L), 2);
        Check.due("begin(96)", x.begin(96, 0L), 3);
        Check.due("the put of 0 has just no bytes", x.end(0), 0);
        for (int had = 8; had <= 96; had += 8) {
            Check.due("the put of 96 takes bytes", x.add(3, had, 8), had);
        }
        Check.due("the put of 96", x.end(3), 1);
        Check.due("has 96 bytes", x.size(1), 96);
    }

    private static void beginSixtyInAll() {
        Check.promise(2, "at most 60 in all, numbered from 0: NONE if there are 60");
        ContentStore x = new ContentStore(2000);
        for (int put = 0; put < 60; put++) {
            Check.due("a refused one has no number", x.begin(97, 0L), -1);
            Check.due("begin", x.begin(put % 2, put % 3), put);
            x.end(put);
        }
        Check.due("a 61st", x.begin(0, 0L), -1);
        Check.due("a 61st, of 96", x.begin(96, 1L), -1);
        Check.due("it isn't there", x.add(60, 1L, 1), -1);
        Check.due("nor to be ended", x.end(60), -1);
    }

    private static void beginSixtyGoneOnesToo() {
        Check.promise(2, "NONE if there are 60, though nothing came of them");
        ContentStore x = new ContentStore(0);
        for (int put = 0; put < 60; put++) {
            Check.due("begin", x.begin(1, 0L), put);
            Check.due("a put without its byte", x.end(put), -2);
        }
        Check.due("no blobs", x.count(2), 0);
        Check.due("a 61st", x.begin(1, 0L), -1);
    }

    private static void beginFourOpen() {
        Check.promise(2, "NONE if 4 are OPEN");
        ContentStore x = new ContentStore(1);
        Check.due("a first", x.begin(1, 0L), 0);
        Check.due("a second", x.begin(1, 0L), 1);
        Check.due("a third", x.begin(1, 0L), 2);
        Check.due("a fourth", x.begin(1, 0L), 3);
        Check.due("a fifth", x.begin(1, 0L), -1);
        x.add(0, 5L, 1);
        x.add(1, 5L, 1);
        x.add(2, 6L, 1);
        Check.due("one becomes a blob", x.end(0), 0);
        beginOneMore(x, 4);
        Check.due("one is that blob", x.end(1), 0);
        beginOneMore(x, 5);
        Check.due("one has no room", x.end(2), -3);
        beginOneMore(x, 6);
        Check.due("one differs", x.end(3), -2);
        beginOneMore(x, 7);
        Check.due("one is open no longer", x.end(3), -1);
        Check.due("so there are 4 still", x.begin(0, 0L), -1);
    }

    private static void beginOneMore(ContentStore x, int number) {
        Check.due("one more", x.begin(0, 0L), number);
        Check.due("but not two", x.begin(0, 0L), -1);
    }

    private static void beginFourOpenOfTheLast() {
        Check.promise(2, "NONE if there are 60, 4 are OPEN, or both");
        ContentStore x = new ContentStore(0);
        for (int put = 0; put < 56; put++) {
            x.begin(0, 0L);
            x.end(put);
        }
        for (int put = 56; put < 60; put++) {
            Check.due("the last four", x.begin(0, 0L), put);
        }
        Check.due("both", x.begin(0, 0L), -1);
        for (int put = 59; put >= 56; put--) {
            Check.due("the last four end", x.end(put), 0);
            Check.due("60 still", x.begin(0, 0L), -1);
        }
    }

    private static void addOneToEight() {
        Check.promise(3, "the lowest n bytes (1 .. 8) of a number, the highest of these first");
        int[] all = {0xF1, 0x02, 0xE3, 0x04, 0xD5, 0x06, 0xC7, 0x88};
        for (int n = 1; n <= 8; n++) {
            ContentStore x = new ContentStore(100);
            x.begin(n, 0L);
            Check.due("n = " + n, x.add(0, 0xF102E304D506C788L, n), n);
            Check.due("the put is full with n = " + n, x.end(0), 0);
            for (int i = 0; i < n; i++) {
                Check.due("byte " + i + " of " + n, x.get(0, i), all[8 - n + i]);
            }
        }
    }

    private static void addOtherNumbers() {
        Check.promise(3, "NONE, and none come, if n isn't so (1 .. 8)");
        int[] wrong = {Integer.MIN_VALUE, -8, -1, 0, 9, 16, 64, Integer.MAX_VALUE};
        ContentStore x = new ContentStore(100);
        x.begin(96, 0L);
        for (int n : wrong) {
            Check.due("n = " + n + " at first", x.add(0, -1L, n), -1);
        }
        Check.due("none came", x.add(0, 1L, 1), 1);
        for (int n : wrong) {
            Check.due("n = " + n + " behind one", x.add(0, -1L, n), -1);
        }
        Check.due("none came", x.add(0, 2L, 8), 9);
        x.begin(1, 0L);
        Check.due("nor to another", x.add(1, 3L, 1), 1);
        Check.due("another is as it came", x.end(1), 0);
        Check.due("its byte", x.get(0, 0), 3);
    }

    private static void addUpToLength() {
        Check.promise(3, "NONE, and none come, if there would be more than its LENGTH");
        for (int length = 0; length <= 8; length++) {
            ContentStore x = new ContentStore(100);
            x.begin(length, 0L);
            for (int n = length + 1; n <= 8; n++) {
                Check.due(n + " to a put of " + length, x.add(0, -1L, n), -1);
            }
            if (length > 0) {
                Check.due(length + " to a put of " + length, x.add(0, 0x0102030405060708L, length), length);
                Check.due("one more", x.add(0, -1L, 1), -1);
            }
            Check.due("the put is whole", x.end(0), 0);
            for (int i = 0; i < length; i++) {
                Check.due("byte " + i, x.get(0, i), 8 - length + i + 1);
            }
        }
        ContentStore x = new ContentStore(100);
        x.begin(96, 0L);
        for (int had = 1; had <= 89; had++) {
            x.add(0, had, 1);
        }
        Check.due("8 behind 89 of 96", x.add(0, -1L, 8), -1);
        Check.due("7 behind 89 of 96", x.add(0, 7L, 7), 96);
        Check.due("one more", x.add(0, -1L, 1), -1);
        Check.due("the put is whole", x.end(0), 0);
        Check.due("byte 88", x.get(0, 88), 89);
        Check.due("byte 89", x.get(0, 89), 0);
        Check.due("byte 95", x.get(0, 95), 7);
    }

    private static void addToNoOpenPut() {
        Check.promise(3, "NONE if there is no such OPEN one");
        ContentStore x = new ContentStore(1);
        Check.due("no put at all", x.add(0, 1L, 1), -1);
        x.begin(1, 0L);
        for (int put : FAR) {
            Check.due("put " + put, x.add(put, 1L, 1), -1);
        }
        int[] above = {1, 2, 59, 60, 61, Integer.MAX_VALUE};
        for (int put : above) {
            Check.due("put " + put, x.add(put, 1L, 1), -1);
        }
        Check.due("the one put", x.add(0, 1L, 1), 1);
        x.end(0);
        Check.due("one that is a blob", x.add(0, 1L, 1), -1);
        x.begin(2, 0L);
        x.add(1, 1L, 1);
        x.end(1);
        Check.due("one that differed, and isn't full", x.add(1, 1L, 1), -1);
        Check.due("the blob has one byte", x.size(0), 1);
    }

    private static void addBytesFrom0To255() {
        Check.promise(3, "BYTES are 0 .. 255");
        for (int from = 0; from < 256; from += 64) {
            ContentStore x = new ContentStore(100);
            x.begin(64, 0L);
            for (int value = from; value < from + 64; value++) {
                x.add(0, value, 1);
            }
            x.end(0);
            for (int i = 0; i < 64; i++) {
                Check.due("byte " + (from + i), x.get(0, i), from + i);
            }
        }
    }

    private static void endTooFewBytes() {
        Check.promise(4, "if its bytes aren't as many as its LENGTH: it DIFFERS");
        ContentStore x = new ContentStore(2000);
        x.begin(1, 0L);
        Check.due("none of 1", x.end(0), -2);
        x.begin(0, 0L);
        Check.due("none of 0", x.end(1), 0);
        x.begin(9, 0L);
        x.add(2, 1L, 8);
        Check.due("8 of 9", x.end(2), -2);
        for (int put = 3; put < 5; put++) {
            x.begin(96, 0L);
            for (int i = 0; i < 11; i++) {
                x.add(put, i, 8);
            }
            x.add(put, 5L, 7);
        }
        Check.due("95 of 96", x.end(3), -2);
        x.add(4, 5L, 1);
        Check.due("96 of 96", x.end(4), 1);
        Check.due("blobs", x.count(2), 2);
        Check.due("bytes", x.count(1), 96);
    }

    private static void endOtherDigest() {
        Check.promise(4, "it isn't their DIGEST: it DIFFERS");
        for (int bit = 0; bit < 64; bit++) {
            ContentStore x = new ContentStore(100);
            x.begin(1, 1L << bit);
            x.add(0, 77L, 1);
            Check.due("a byte, bit " + bit, x.end(0), -2);
            x.begin(0, 1L << bit);
            Check.due("no byte, bit " + bit, x.end(1), -2);
            Check.due("no blob, bit " + bit, x.count(2), 0);
        }
        long[] others = {-1L, Long.MIN_VALUE, Long.MAX_VALUE, 0x100000000L, Check.digest(77)};
        for (long xor : others) {
            ContentStore x = new ContentStore(100);
            x.begin(1, xor);
            x.add(0, 77L, 1);
            Check.due("xor " + xor, x.end(0), -2);
        }
        ContentStore x = new ContentStore(100);
        x.begin(1, 0L);
        x.add(0, 77L, 1);
        Check.due("xor 0", x.end(0), 0);
    }

    private static void endDiffersFirst() {
        Check.promise(4, "it DIFFERS, whether there is such a BLOB, or NO ROOM");
        ContentStore x = just(1, 77);
        x.begin(1, 1L);
        x.add(1, 77L, 1);
        Check.due("bytes of a blob, other digest", x.end(1), -2);
        x.begin(1, 1L);
        x.add(2, 78L, 1);
        Check.due("no room, other digest", x.end(2), -2);
        x.begin(2, 0L);
        x.add(3, 77L, 1);
        Check.due("bytes of a blob, but one too few", x.end(3), -2);
        x.begin(0, 0L);
        Check.due("as told", x.end(4), 1);
    }

    private static void endSoundBlobNeedsNoRoom() {
        Check.promise(4, "if there is a BLOB that is SOUND with these bytes: it is that one");
        int[] bytes = Check.unshared(96, 1);
        ContentStore x = just(96, bytes);
        Check.due("the room is full", Check.put(x, 9), -3);
        Check.due("the same 96", Check.put(x, bytes), 0);
        Check.due("no new blob", x.count(2), 1);
        int[] other = bytes.clone();
        other[95] ^= 1;
        Check.due("95 the same", Check.put(x, other), -3);
        other = bytes.clone();
        other[0] ^= 1;
        Check.due("95 the same, behind one", Check.put(x, other), -3);
    }

    private static void endLeastNumber() {
        Check.promise(4, "it is that one (the least number)");
        ContentStore x = just(100, 1, 2);
        x.poison(0, 1, 8);
        Check.due("beside one that isn't sound", Check.put(x, 1, 2), 1);
        x.poison(1, 0, 8);
        Check.due("beside two", Check.put(x, 1, 2), 2);
        x.poison(1, 0, 8);
        x.poison(0, 1, 8);
        Check.due("of three that are sound", Check.put(x, 1, 2), 0);
        x.refer(0, 1);
        x.refer(1, 2);
        x.sweep();
        Check.due("of two, one is gone", Check.put(x, 1, 2), 1);
        x.poison(1, 0, 8);
        Check.due("the greatest, alone sound", Check.put(x, 1, 2), 2);
    }

    private static void endOnlySoundBlobs() {
        Check.promise(4, "a BLOB that is SOUND with these bytes");
        ContentStore x = just(100, 1, 2);
        x.poison(0, 1, 8);
        Check.due("the bytes that a poisoned one has", Check.put(x, 1, 10), 1);
        Check.due("its part is found", x.count(0), 1);
        Check.due("both have it", x.count(3), 2);
        x.poison(0, 1, 8);
        Check.due("sound again: the bytes it has now", Check.put(x, 1, 2), 0);
        Check.due("the other isn't sound now", Check.put(x, 1, 10), 2);
    }

    private static void endWithoutBytes() {
        Check.promise(4, "a BLOB without bytes has no PARTS");
        ContentStore x = new ContentStore(0);
        Check.due("no bytes", Check.put(x), 0);
        Check.due("again: that one", Check.put(x), 0);
        Check.due("no parts", x.count(0), 0);
        Check.due("it goes", x.sweep(), 1);
        Check.due("a gone one is not it", Check.put(x), 1);
        Check.due("blobs", x.count(2), 1);
    }

    private static void endRoomForMissingParts() {
        Check.promise(4, "if the PARTS that aren't there yet wouldn't have room: NO ROOM");
        int[] a = Check.unshared(16, 1);
        int[] b = Check.unshared(16, 2);
        Check.due("two parts, a byte too little", Check.put(new ContentStore(31), Check.join(a, b)), -3);
        Check.due("two parts, just room", Check.put(new ContentStore(32), Check.join(a, b)), 0);
        Check.due("a part twice", Check.put(new ContentStore(16), Check.join(a, a)), 0);
        Check.due("a part twice, a byte too little", Check.put(new ContentStore(15), Check.join(a, a)), -3);
        Check.due("six parts, two kinds", Check.put(new ContentStore(32), Check.join(a, b, b, a, a, b)), 0);
        Check.due("six parts, a byte too little", Check.put(new ContentStore(31), Check.join(a, b, b, a, a, b)), -3);
        ContentStore x = just(31, a);
        Check.due("one that is there, one that isn't", Check.put(x, Check.join(a, b)), -3);
        Check.due("one that is there, fifteen more", Check.put(x, Check.join(a, Check.unshared(15, 2))), 1);
        Check.due("full, and all are there", Check.put(x, Check.join(a, a, a, Check.unshared(15, 2))), 2);
        Check.due("bytes", x.count(1), 31);
        x.poison(0, 0, 4);
        Check.due("an altered part isn't there", Check.put(x, a), -3);
        Check.due("an altered part is there as it is", Check.put(x, Check.join(Check.unshared(16, 1 ^ 4))), 3);
    }

    private static void endNoRoomKeepsNothing() {
        Check.promise(4, "NO ROOM: none of its PARTS is kept, and no number is used");
        int[] a = Check.unshared(16, 1);
        int[] b = Check.unshared(16, 2);
        int[] c = Check.unshared(16, 3);
        ContentStore x = just(40, a);
        Check.due("the third has no room", Check.put(x, Check.join(a, b, c)), -3);
        Check.due("parts", x.count(0), 1);
        Check.due("bytes", x.count(1), 16);
        Check.due("blobs", x.count(2), 1);
        Check.due("blobs that have the first", x.count(3), 1);
        Check.due("24 have room still", Check.put(x, Check.unshared(24, 3)), 1);
        x.refer(0, 1);
        Check.due("the first goes", x.sweep(), 1);
        Check.due("and its part", x.count(1), 24);
    }

    private static void endRoomBesideOpenPuts() {
        Check.promise(4, "the ROOM is for the bytes of all PARTS, not for those that come to an OPEN PUT");
        ContentStore x = new ContentStore(8);
        for (int put = 0; put < 4; put++) {
            x.begin(8, 0L);
            Check.due("eight bytes each", x.add(put, put, 8), 8);
        }
        Check.due("none are kept yet", x.count(1), 0);
        Check.due("the last that began has room", x.end(3), 0);
        Check.due("the first has none", x.end(0), -3);
        x.sweep();
        Check.due("the second has room again", x.end(1), 1);
        Check.due("the third has none", x.end(2), -3);
    }

    private static void endSixtyBlobs() {
        Check.promise(4, "60 BLOBS (gone ones count)");
        ContentStore x = new ContentStore(2000);
        for (int blob = 0; blob < 59; blob++) {
            Check.due("a blob", Check.put(x, blob), blob);
        }
        Check.due("all go", x.sweep(), 59);
        Check.due("the 60th has the last number, though 59 are gone", Check.put(x, 0), 59);
        Check.due("blobs", x.count(2), 1);
        Check.due("no put is left for a 61st", x.begin(1, 0L), -1);
        ContentStore y = new ContentStore(60);
        for (int blob = 0; blob < 60; blob++) {
            Check.due("60 may be there at once", Check.put(y, blob), blob);
        }
        Check.due("blobs", y.count(2), 60);
        Check.due("bytes", y.count(1), 60);
    }

    private static void endClosesInAnyCase() {
        Check.promise(4, "in any case the PUT is OPEN no longer");
        ContentStore x = new ContentStore(1);
        long[] bytes = {5, 5, 6, 5};
        int[] due = {0, 0, -3, -2};
        for (int put = 0; put < 4; put++) {
            x.begin(1, put == 3 ? 1L : 0L);
            x.add(put, bytes[put], 1);
        }
        for (int put = 0; put < 4; put++) {
            Check.due("end of put " + put, x.end(put), due[put]);
            Check.due("end again of put " + put, x.end(put), -1);
            Check.due("add to put " + put, x.add(put, 5L, 1), -1);
        }
        for (int put = 4; put < 8; put++) {
            Check.due("four more", x.begin(1, 0L), put);
        }
    }

    private static void endNoSuchPut() {
        Check.promise(4, "- 1 if there is no such OPEN one");
        ContentStore x = new ContentStore(10);
        Check.due("no put at all", x.end(0), -1);
        x.begin(0, 0L);
        for (int put : FAR) {
            Check.due("put " + put, x.end(put), -1);
        }
        int[] above = {1, 59, 60, 61, Integer.MAX_VALUE};
        for (int put : above) {
            Check.due("put " + put, x.end(put), -1);
        }
        Check.due("no blob came of these", x.count(2), 0);
        Check.due("the one put", x.end(0), 0);
    }

    private static void partsOfSixteen() {
        Check.promise(4, "its bytes cut into sixteens, the last one perhaps shorter (none, if it has no bytes)");
        for (int length = 0; length <= 96; length++) {
            ContentStore x = just(length, Check.unshared(length, 1));
            Check.due("parts of " + length, x.count(0), (length + 15) / 16);
            Check.due("bytes of " + length, x.count(1), length);
        }
    }

    private static void partsShorterAreOthers() {
        Check.promise(4, "two of the same bytes are one");
        ContentStore x = just(2000, Check.row(16, 0));
        for (int length = 1; length < 16; length++) {
            Check.due("a shorter one", Check.put(x, Check.row(length, 0)), length);
        }
        Check.due("each is one of its own", x.count(0), 16);
        Check.due("bytes", x.count(1), 136);
        for (int length = 17; length < 32; length++) {
            Check.due("a whole one and a shorter one", Check.put(x, Check.row(length, 0)), length - 1);
        }
        Check.due("all were there", x.count(0), 16);
        Check.due("blobs that have the whole one", x.count(3), 16);
        Check.due("blobs that have the shortest", x.count(4), 2);
        int[] other = Check.row(16, 0);
        other[15] = 1;
        Check.put(x, other);
        Check.due("the last byte tells", x.count(0), 17);
        other[15] = 0;
        other[0] = 1;
        Check.put(x, other);
        Check.due("the first byte tells", x.count(0), 18);
    }

    private static void partsMadeFirst() {
        Check.promise(4, "of several that are alike by now the one that was made first is found");
        ContentStore x = just(2000, 1);
        Check.put(x, 2);
        Check.put(x, 3);
        x.poison(1, 0, 2 ^ 3);
        x.poison(0, 0, 1 ^ 3);
        Check.put(x, Check.join(Check.row(16, 9), Check.row(1, 3)));
        Check.due("of three, the first", x.count(3), 2);
        Check.due("not the second", x.count(4), 1);
        Check.due("not the third", x.count(5), 1);
        x.poison(0, 0, 1 ^ 3);
        Check.put(x, Check.join(Check.row(16, 9), Check.row(16, 9), Check.row(1, 3)));
        Check.due("the first is another: the second", x.count(4), 2);
        Check.due("not the third", x.count(5), 1);
        Check.due("no part was made for it", x.count(0), 4);
    }

    private static void partsKeptAsLongAsABlobHasThem() {
        Check.promise(4, "each is kept as long as a BLOB has it");
        int[] a = Check.unshared(16, 1);
        ContentStore x = just(20, a);
        Check.put(x, Check.join(a, a, a, a, a, a));
        Check.put(x, Check.join(a, Check.row(4, 3)));
        x.refer(0, 1);
        x.refer(1, 2);
        Check.due("the one that brought it goes", x.sweep(), 1);
        Check.due("two have it", x.count(4), 2);
        x.refer(0, -1);
        Check.due("the one that had it six times goes", x.sweep(), 1);
        Check.due("one has it", x.count(5), 1);
        Check.due("parts", x.count(0), 2);
        Check.due("the room is full still", Check.put(x, 8), -3);
        x.refer(1, -1);
        Check.due("the last goes", x.sweep(), 1);
        Check.due("no parts", x.count(0), 0);
        Check.due("the room is free", Check.put(x, Check.unshared(20, 8)), 3);
    }
}
