/** The bounds that the document names for promises 5 to 8. */
public final class BlobBoundsTest {
    public static void main(String[] args) {
        thereBeforeAnyBlob();
        thereUpToTheLast();
        thereOfSixty();
        thereNoLonger();
        digestOfRows();
        digestOfNone();
        digestStays();
        sizes();
        sizeOfNone();
        getFromFirstToLast();
        getWithoutBytes();
        getNoneBeforeNotSound();
        getNotSoundAtAll();
        Check.finish();
    }

    private static ContentStore withBlobs(int blobs) {
        ContentStore x = new ContentStore(2000);
        for (int blob = 0; blob < blobs; blob++) {
            Check.put(x, blob, 9);
        }
        return x;
    }

    /** A store whose blob 0 went with a sweep and blob 1, that was not sound, with a cut; blob 2 is there. */
    private static ContentStore withGoneBlobs() {
        ContentStore x = withBlobs(1);
        x.mirror(0);
        x.sweep();
        Check.put(x, 1, 9);
        x.poison(1, 0, 1);
        x.pack();
        x.cut(0, 1);
        Check.put(x, 2, 9);
        return x;
    }

    private static void thereBeforeAnyBlob() {
        Check.promise(5, "whether a BLOB is there");
        ContentStore x = new ContentStore(2000);
        Check.due("no blob yet", x.there(0), false);
        x.begin(0, 0L);
        Check.due("a put is none yet", x.there(0), false);
        x.end(0);
        Check.due("its end makes one", x.there(0), true);
    }

    private static void thereUpToTheLast() {
        Check.promise(5, "whether a BLOB is there");
        ContentStore x = withBlobs(3);
        Check.due("the first", x.there(0), true);
        Check.due("the last", x.there(2), true);
        int[] none = {3, 4, 59, 60, 61, -1, -2, Integer.MIN_VALUE, Integer.MAX_VALUE};
        for (int blob : none) {
            Check.due("blob " + blob, x.there(blob), false);
        }
    }

    private static void thereOfSixty() {
        Check.promise(5, "whether a BLOB is there, of 60");
        ContentStore x = withBlobs(60);
        Check.due("the first", x.there(0), true);
        Check.due("the last", x.there(59), true);
        int[] none = {60, 61, -1, Integer.MIN_VALUE, Integer.MAX_VALUE};
        for (int blob : none) {
            Check.due("blob " + blob, x.there(blob), false);
            Check.due("its digest", x.digest(blob), 0);
            Check.due("its size", x.size(blob), -1);
            Check.due("its byte", x.get(blob, 0), -1);
        }
        Check.due("the last one's digest", x.digest(59), Check.digest(59, 9));
        Check.due("the last one's size", x.size(59), 2);
        Check.due("the last one's byte", x.get(59, 0), 59);
    }

    private static void thereNoLonger() {
        Check.promise(5, "a gone BLOB isn't there");
        ContentStore x = withGoneBlobs();
        Check.due("swept", x.there(0), false);
        Check.due("cut off", x.there(1), false);
        Check.due("put behind them", x.there(2), true);
        x.poison(2, 0, 1);
        Check.due("not sound, but there", x.there(2), true);
    }

    /** The digests are worked out by another program. */
    private static void digestOfRows() {
        Check.promise(6, "DIGEST, in 64 bits");
        int[] rising = new int[96];
        for (int i = 0; i < 96; i++) {
            rising[i] = i;
        }
        digestOf(0L);
        digestOf(1099511630259L, 0);
        digestOf(279275953872794L, 255);
        digestOf(407996879858327547L, 128, 127);
        digestOf(4149772850044438684L, Check.row(16, 1));
        digestOf(-5834134939642872558L, Check.row(17, 1));
        digestOf(-8210009069378352149L, Check.row(96, 0));
        digestOf(1837526994158393682L, Check.row(96, 255));
        digestOf(3240660943655811733L, rising);
    }

    private static void digestOf(long due, int... bytes) {
        ContentStore x = new ContentStore(2000);
        Check.put(x, bytes);
        Check.due("of " + bytes.length + " bytes", x.digest(0), due);
    }

    private static void digestOfNone() {
        Check.promise(6, "0 if there is none such");
        ContentStore x = withGoneBlobs();
        int[] none = {0, 1, 3, 60, -1, Integer.MIN_VALUE, Integer.MAX_VALUE};
        for (int blob : none) {
            Check.due("blob " + blob, x.digest(blob), 0);
        }
        Check.due("one that is there", x.digest(2), Check.digest(2, 9));
        Check.due("before any blob", new ContentStore(9).digest(0), 0);
    }

    private static void digestStays() {
        Check.promise(6, "a BLOB keeps its DIGEST as it was put");
        ContentStore x = withBlobs(1);
        long due = Check.digest(0, 9);
        x.mirror(0);
        x.poison(0, 0, 255);
        Check.due("not sound", x.digest(0), due);
        x.mirror(0);
        Check.due("mirrored so", x.digest(0), due);
        x.poison(0, 0, 255);
        x.mirror(0);
        x.poison(0, 1, 255);
        x.repair(0);
        Check.due("repaired", x.digest(0), due);
        x.pack();
        Check.due("packed", x.digest(0), due);
    }

    private static void sizes() {
        Check.promise(7, "how many bytes a BLOB has");
        int[] lengths = {0, 1, 15, 16, 17, 95, 96};
        for (int length : lengths) {
            ContentStore x = new ContentStore(96);
            Check.put(x, Check.unshared(length, 1));
            Check.due("of " + length, x.size(0), length);
            x.poison(0, 0, 1);
            Check.due("of " + length + ", not sound", x.size(0), length);
        }
    }

    private static void sizeOfNone() {
        Check.promise(7, "NONE if there is none such");
        ContentStore x = withGoneBlobs();
        int[] none = {0, 1, 3, 60, -1, Integer.MIN_VALUE, Integer.MAX_VALUE};
        for (int blob : none) {
            Check.due("blob " + blob, x.size(blob), -1);
        }
        Check.due("one that is there", x.size(2), 2);
        Check.due("before any blob", new ContentStore(9).size(0), -1);
    }

    private static void getFromFirstToLast() {
        Check.promise(8, "a byte of a BLOB; - 1 if there is none");
        int[] lengths = {1, 15, 16, 17, 31, 32, 33, 96};
        for (int length : lengths) {
            int[] bytes = Check.unshared(length, 255);
            ContentStore x = new ContentStore(96);
            Check.put(x, bytes);
            for (int i = 0; i < length; i++) {
                Check.due("byte " + i + " of " + length, x.get(0, i), bytes[i]);
            }
            int[] none = {-1, -16, length, length + 1, length + 16, 96, Integer.MIN_VALUE, Integer.MAX_VALUE};
            for (int i : none) {
                Check.due("byte " + i + " of " + length, x.get(0, i), -1);
            }
        }
    }

    private static void getWithoutBytes() {
        Check.promise(8, "- 1 if there is none");
        ContentStore x = new ContentStore(96);
        Check.due("before any blob", x.get(0, 0), -1);
        Check.put(x);
        int[] none = {-1, 0, 1, 16};
        for (int i : none) {
            Check.due("byte " + i + " of none", x.get(0, i), -1);
        }
    }

    private static void getNoneBeforeNotSound() {
        Check.promise(8, "- 1 if there is none; else - 2 if it isn't SOUND");
        ContentStore x = withGoneBlobs();
        Check.due("a gone one that was sound", x.get(0, 0), -1);
        Check.due("a gone one that was not", x.get(1, 0), -1);
        x.poison(2, 1, 1);
        Check.due("before its first byte", x.get(2, -1), -1);
        Check.due("its first byte", x.get(2, 0), -2);
        Check.due("its last byte", x.get(2, 1), -2);
        Check.due("behind its last byte", x.get(2, 2), -1);
        Check.due("no such blob", x.get(3, 0), -1);
        Check.due("no such blob, - 1", x.get(-1, 0), -1);
        Check.due("no such blob, the least", x.get(Integer.MIN_VALUE, 0), -1);
        Check.due("no such blob, the greatest", x.get(Integer.MAX_VALUE, 0), -1);
        x.poison(2, 1, 1);
        Check.due("sound again", x.get(2, 1), 9);
    }

    private static void getNotSoundAtAll() {
        Check.promise(8, "- 2 if it isn't SOUND, whichever byte is altered");
        ContentStore x = new ContentStore(96);
        Check.put(x, Check.unshared(33, 1));
        int[] altered = {0, 15, 16, 31, 32};
        for (int at : altered) {
            x.poison(0, at, 128);
            for (int i = 0; i < 33; i += 8) {
                Check.due("byte " + i + " where " + at + " is altered", x.get(0, i), -2);
            }
            x.poison(0, at, 128);
        }
        Check.due("none is altered", Check.has(x, 0, Check.unshared(33, 1)), true);
    }
}
