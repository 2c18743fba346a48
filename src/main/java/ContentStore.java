import java.util.ArrayList;

/**
 * Content kept once: blobs in parts that others share, put with a check, told
 * whether they are sound by a sum, poisoned ones repaired from a mirror,
 * actions that refer to them, sweeps of what nothing refers to, packs that are
 * cut, room counted by parts.
 */
public final class ContentStore {
    /** None. */
    public static final int NONE = -1;

    private static final int DIFFERS = -2;
    private static final int NOT_SOUND = -2;
    private static final int NO_COPY = -2;
    private static final int NO_ROOM = -3;

    private static final int MOST_ROOM = 2000;
    private static final int MOST_PUTS = 60;
    private static final int MOST_OPEN = 4;
    private static final int MOST_LENGTH = 96;
    private static final int MOST_ADDED = 8;
    private static final int MOST_BLOBS = 60;
    private static final int MOST_ACTIONS = 20;
    private static final int MOST_PACKS = 12;

    private static final int PART_LENGTH = 16;
    private static final int BYTE_MASK = 255;
    private static final int SUM_FACTOR = 0x85EBCA77;
    private static final long DIGEST_FACTOR = 0x100000001B3L;

    private static final int COUNT_PARTS = 0;
    private static final int COUNT_BYTES = 1;
    private static final int COUNT_BLOBS = 2;
    private static final int COUNT_SHARERS = 3;

    private final Shelf shelf;
    private final Put[] puts;
    private final Blob[] blobs;
    private final int[] references;
    private int putCount;
    private int openCount;
    private int blobCount;
    private int packCount;

    /** A store with room for so many bytes of parts (0 .. 2000; beyond that the nearest). */
    public ContentStore(int room) {
        shelf = new Shelf(Math.max(0, Math.min(MOST_ROOM, room)));
        puts = new Put[MOST_PUTS];
        blobs = new Blob[MOST_BLOBS];
        references = new int[MOST_ACTIONS];
        for (int action = 0; action < references.length; action++) {
            references[action] = NONE;
        }
    }

    /** A new put: its number, or NONE. */
    public int begin(int length, long xor) {
        if (length < 0 || length > MOST_LENGTH || openCount >= MOST_OPEN || putCount >= puts.length) {
            return NONE;
        }
        int number = putCount;
        puts[number] = new Put(length, xor);
        putCount++;
        openCount++;
        return number;
    }

    /** The lowest n bytes of w come to a put, the highest of these first: how many it has then, or NONE. */
    public int add(int put, long w, int n) {
        Put coming = openPut(put);
        if (coming == null || n < 1 || n > MOST_ADDED || n > coming.lacking()) {
            return NONE;
        }
        coming.take(w, n);
        return coming.had;
    }

    /** Ends a put: its blob; - 1 if no such put is open, - 2 if it differs, - 3 if there is no room. */
    public int end(int put) {
        Put ending = openPut(put);
        if (ending == null) {
            return NONE;
        }
        ending.isOpen = false;
        openCount--;
        if (ending.differs()) {
            return DIFFERS;
        }
        int same = soundBlobWith(ending.bytes);
        return same != NONE ? same : newBlobWith(ending.bytes);
    }

    /** Whether a blob is there. */
    public boolean there(int blob) {
        return blobAt(blob) != null;
    }

    /** The digest that a blob keeps; 0 if there is none such. */
    public long digest(int blob) {
        Blob asked = blobAt(blob);
        return asked == null ? 0L : asked.digest;
    }

    /** How many bytes a blob has, or NONE. */
    public int size(int blob) {
        Blob asked = blobAt(blob);
        return asked == null ? NONE : asked.length;
    }

    /** A byte of a blob; - 1 if there is none; else - 2 if the blob isn't sound. */
    public int get(int blob, int i) {
        Blob asked = blobAt(blob);
        Part part = asked == null ? null : asked.partOf(i);
        if (part == null) {
            return NONE;
        }
        return asked.isSound() ? part.byteAt(i % PART_LENGTH) : NOT_SOUND;
    }

    /** Alters byte i of a blob by the mask's lowest eight bits, for all blobs that have its part. */
    public boolean poison(int blob, int i, int mask) {
        Blob asked = blobAt(blob);
        Part part = asked == null ? null : asked.partOf(i);
        int altered = mask & BYTE_MASK;
        if (part == null || altered == 0) {
            return false;
        }
        return part.alter(i % PART_LENGTH, altered);
    }

    /** Whether a blob is there and sound. */
    public boolean sound(int blob) {
        Blob asked = blobAt(blob);
        return asked != null && asked.isSound();
    }

    /** The mirror has a copy of a blob's bytes as they are now; false if there is none such. */
    public boolean mirror(int blob) {
        Blob asked = blobAt(blob);
        if (asked == null) {
            return false;
        }
        asked.copyBytes();
        return true;
    }

    /** Repairs a blob from the mirror: 1; 0 if it is sound; - 1 none such; - 2 no right copy; - 3 no room. */
    public int repair(int blob) {
        Blob asked = blobAt(blob);
        if (asked == null) {
            return NONE;
        }
        if (asked.isSound()) {
            return 0;
        }
        if (!asked.hasRightCopy()) {
            return NO_COPY;
        }
        if (!shelf.hasRoomFor(asked.copy)) {
            return NO_ROOM;
        }
        Part[] before = asked.parts;
        asked.parts = shelf.rowOf(asked.copy, before);
        shelf.leave(before);
        return 1;
    }

    /** An action refers to a blob (NONE: to none any more); false if there are none such. */
    public boolean refer(int action, int blob) {
        if (action < 0 || action >= references.length || (blob != NONE && blobAt(blob) == null)) {
            return false;
        }
        references[action] = blob;
        return true;
    }

    /** To which blob an action refers, or NONE. */
    public int referred(int action) {
        return action < 0 || action >= references.length ? NONE : references[action];
    }

    /** All blobs go that no action refers to, nor a pack has: how many went. */
    public int sweep() {
        int went = 0;
        for (int number = 0; number < blobCount; number++) {
            Blob each = blobAt(number);
            if (each != null && each.pack == NONE && !isReferredTo(number)) {
                letGo(each);
                went++;
            }
        }
        return went;
    }

    /** All blobs that are in no pack come into a new one: its number, or NONE. */
    public int pack() {
        if (packCount >= MOST_PACKS) {
            return NONE;
        }
        boolean any = false;
        for (int number = 0; number < blobCount; number++) {
            Blob each = blobAt(number);
            if (each != null && each.pack == NONE) {
                each.pack = packCount;
                any = true;
            }
        }
        if (!any) {
            return NONE;
        }
        packCount++;
        return packCount - 1;
    }

    /** Cuts a pack to so many bytes: how many blobs are lost, or NONE. */
    public int cut(int pack, int keep) {
        if (pack < 0 || pack >= packCount || keep < 0) {
            return NONE;
        }
        int lost = 0;
        int reached = 0;
        // A pack's row is its blobs by their numbers, and only its tail is ever lost, so no row need be kept.
        for (int number = 0; number < blobCount; number++) {
            Blob each = blobAt(number);
            if (each != null && each.pack == pack) {
                reached += each.length;
                if (reached > keep) {
                    letGo(each);
                    forget(number);
                    lost++;
                }
            }
        }
        return lost;
    }

    /** The pack that has a blob, or NONE. */
    public int packOf(int blob) {
        Blob asked = blobAt(blob);
        return asked == null ? NONE : asked.pack;
    }

    /** Parts kept (0), their bytes (1), blobs there (2), blobs that have the first part of blob what - 3 (3 and more). */
    public int count(int what) {
        if (what < 0) {
            return NONE;
        }
        switch (what) {
            case COUNT_PARTS:
                return shelf.parts.size();
            case COUNT_BYTES:
                return shelf.used;
            case COUNT_BLOBS:
                return blobsThere();
            default:
                return sharersOfFirst(what - COUNT_SHARERS);
        }
    }

    private Put openPut(int number) {
        if (number < 0 || number >= putCount || number >= puts.length) {
            return null;
        }
        Put put = puts[number];
        return put != null && put.isOpen ? put : null;
    }

    private Blob blobAt(int number) {
        if (number < 0 || number >= blobCount || number >= blobs.length) {
            return null;
        }
        Blob blob = blobs[number];
        return blob != null && blob.isThere ? blob : null;
    }

    private int soundBlobWith(int[] bytes) {
        for (int number = 0; number < blobCount; number++) {
            Blob each = blobAt(number);
            if (each != null && each.hasBytes(bytes) && each.isSound()) {
                return number;
            }
        }
        return NONE;
    }

    private int newBlobWith(int[] bytes) {
        if (blobCount >= blobs.length || !shelf.hasRoomFor(bytes)) {
            return NO_ROOM;
        }
        int number = blobCount;
        blobs[number] = new Blob(bytes, shelf.rowOf(bytes, new Part[0]));
        blobCount++;
        return number;
    }

    private void letGo(Blob blob) {
        blob.isThere = false;
        shelf.leave(blob.parts);
    }

    private boolean isReferredTo(int blob) {
        for (int action = 0; action < references.length; action++) {
            if (references[action] == blob) {
                return true;
            }
        }
        return false;
    }

    private void forget(int blob) {
        for (int action = 0; action < references.length; action++) {
            if (references[action] == blob) {
                references[action] = NONE;
            }
        }
    }

    private int blobsThere() {
        int found = 0;
        for (int number = 0; number < blobCount; number++) {
            if (blobAt(number) != null) {
                found++;
            }
        }
        return found;
    }

    private int sharersOfFirst(int blob) {
        Blob asked = blobAt(blob);
        Part first = asked == null ? null : asked.partOf(0);
        if (first == null) {
            return NONE;
        }
        int sharers = 0;
        for (int number = 0; number < blobCount; number++) {
            Blob each = blobAt(number);
            if (each != null && each.hasPart(first)) {
                sharers++;
            }
        }
        return sharers;
    }

    /** The sum of a row that goes on behind bytes whose sum is given. */
    private static int sumBehind(int sum, int[] bytes) {
        int s = sum;
        for (int i = 0; i < bytes.length; i++) {
            int mixed = s ^ bytes[i];
            s = ((mixed << 5) | (mixed >>> 27)) * SUM_FACTOR;
        }
        return s;
    }

    private static long digestOf(int[] bytes) {
        long d = bytes.length;
        for (int i = 0; i < bytes.length; i++) {
            d = (d ^ bytes[i]) * DIGEST_FACTOR;
            d = d ^ (d >>> 29);
        }
        return d;
    }

    /** How many bytes the part has that begins there in a row. */
    private static int partLength(int[] bytes, int from) {
        return from < 0 || from >= bytes.length ? 0 : Math.min(PART_LENGTH, bytes.length - from);
    }

    private static boolean areAlike(int[] bytes, int from, int[] others, int othersFrom) {
        int length = partLength(bytes, from);
        if (length != partLength(others, othersFrom)) {
            return false;
        }
        for (int i = 0; i < length; i++) {
            if (bytes[from + i] != others[othersFrom + i]) {
                return false;
            }
        }
        return true;
    }

    /** Bytes that come, up to a length that is told ahead. */
    private static final class Put {
        final int[] bytes;
        final long xor;
        int had;
        boolean isOpen;

        Put(int length, long xor) {
            this.bytes = new int[Math.max(0, length)];
            this.xor = xor;
            this.isOpen = true;
        }

        int lacking() {
            return bytes.length - had;
        }

        void take(long w, int n) {
            for (int left = n - 1; left >= 0 && had < bytes.length; left--) {
                bytes[had] = (int) (w >>> (8 * left)) & BYTE_MASK;
                had++;
            }
        }

        boolean differs() {
            // What was told ahead is the bytes' own digest xor a number: that is theirs if the number is 0 alone.
            return had != bytes.length || xor != 0L;
        }
    }

    /** Up to sixteen bytes that blobs share. */
    private static final class Part {
        final int[] bytes;
        /** Places in blobs that have it: one that has it twice counts twice. */
        int holders;

        Part(int[] row, int from) {
            int length = partLength(row, from);
            bytes = new int[length];
            for (int i = 0; i < length; i++) {
                bytes[i] = row[from + i];
            }
        }

        int byteAt(int i) {
            return i < 0 || i >= bytes.length ? NONE : bytes[i];
        }

        boolean alter(int i, int mask) {
            if (i < 0 || i >= bytes.length) {
                return false;
            }
            bytes[i] ^= mask;
            return true;
        }
    }

    /** A row of parts, with the sum and the digest that it was put with. */
    private static final class Blob {
        final int length;
        final int sum;
        final long digest;
        Part[] parts;
        /** The mirror's copy; null if it has none. */
        int[] copy;
        int pack;
        boolean isThere;

        Blob(int[] bytes, Part[] parts) {
            this.length = bytes.length;
            this.sum = sumBehind(0, bytes);
            this.digest = digestOf(bytes);
            this.parts = parts;
            this.pack = NONE;
            this.isThere = true;
        }

        /** The part that has byte i; null if there is no such byte. */
        Part partOf(int i) {
            int place = i / PART_LENGTH;
            return i < 0 || i >= length || place >= parts.length ? null : parts[place];
        }

        boolean hasPart(Part part) {
            for (int place = 0; place < parts.length; place++) {
                if (parts[place] == part) {
                    return true;
                }
            }
            return false;
        }

        boolean hasBytes(int[] bytes) {
            if (bytes.length != length) {
                return false;
            }
            for (int place = 0; place < parts.length; place++) {
                if (!areAlike(parts[place].bytes, 0, bytes, place * PART_LENGTH)) {
                    return false;
                }
            }
            return true;
        }

        boolean isSound() {
            int now = 0;
            for (int place = 0; place < parts.length; place++) {
                now = sumBehind(now, parts[place].bytes);
            }
            return now == sum;
        }

        void copyBytes() {
            if (copy == null) {
                copy = new int[length];
            }
            for (int i = 0; i < length; i++) {
                Part part = partOf(i);
                copy[i] = part == null ? 0 : part.byteAt(i % PART_LENGTH);
            }
        }

        boolean hasRightCopy() {
            return copy != null && sumBehind(0, copy) == sum;
        }
    }

    /** All parts that are kept, and the room for their bytes. */
    private static final class Shelf {
        final int room;
        /** In the order in which they were made, so that the first of several alike is the one to be found. */
        final ArrayList<Part> parts;
        int used;

        Shelf(int room) {
            this.room = room;
            this.parts = new ArrayList<>();
        }

        /** Whether the parts of these bytes that aren't there yet have room beside all that are. */
        boolean hasRoomFor(int[] bytes) {
            int needed = 0;
            for (int from = 0; from < bytes.length; from += PART_LENGTH) {
                if (found(bytes, from) == null && !comesEarlier(bytes, from)) {
                    needed += partLength(bytes, from);
                }
            }
            return needed <= room - used;
        }

        /** The parts of these bytes: where the one that stands there now is right it stays. */
        Part[] rowOf(int[] bytes, Part[] standing) {
            Part[] row = new Part[(bytes.length + PART_LENGTH - 1) / PART_LENGTH];
            for (int place = 0; place < row.length; place++) {
                int from = place * PART_LENGTH;
                Part part = place < standing.length ? standing[place] : null;
                if (part == null || !areAlike(part.bytes, 0, bytes, from)) {
                    part = found(bytes, from);
                }
                if (part == null) {
                    part = made(bytes, from);
                }
                part.holders++;
                row[place] = part;
            }
            return row;
        }

        /** A row of parts is had no longer by one blob: those that no other has go. */
        void leave(Part[] row) {
            for (int place = 0; place < row.length; place++) {
                Part part = row[place];
                part.holders--;
                if (part.holders == 0) {
                    drop(part);
                }
            }
        }

        private Part made(int[] bytes, int from) {
            Part part = new Part(bytes, from);
            parts.add(part);
            used += part.bytes.length;
            return part;
        }

        private Part found(int[] bytes, int from) {
            for (int i = 0; i < parts.size(); i++) {
                Part part = parts.get(i);
                if (areAlike(part.bytes, 0, bytes, from)) {
                    return part;
                }
            }
            return null;
        }

        private boolean comesEarlier(int[] bytes, int from) {
            for (int earlier = 0; earlier < from; earlier += PART_LENGTH) {
                if (areAlike(bytes, earlier, bytes, from)) {
                    return true;
                }
            }
            return false;
        }

        private void drop(Part part) {
            for (int i = 0; i < parts.size(); i++) {
                if (parts.get(i) == part) {
                    parts.remove(i);
                    used -= part.bytes.length;
                    return;
                }
            }
        }
    }
}
