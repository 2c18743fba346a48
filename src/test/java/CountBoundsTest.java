/** The bounds that the document names for promise 19. */
public final class CountBoundsTest {
    public static void main(String[] args) {
        emptyStore();
        fullStore();
        otherNumbers();
        goneBlob();
        withoutBytes();
        lastOfSixty();
        sharersFromOneToSixty();
        eachBlobOnce();
        whateverItsPlace();
        asItLiesThere();
        firstPartAlone();
        Check.finish();
    }

    private static void counts(ContentStore x, int parts, int bytes, int blobs) {
        Check.due("count(0)", x.count(0), parts);
        Check.due("count(1)", x.count(1), bytes);
        Check.due("count(2)", x.count(2), blobs);
    }

    private static void emptyStore() {
        Check.promise(19, "how many PARTS, bytes, BLOBS: none");
        ContentStore x = new ContentStore(100);
        counts(x, 0, 0, 0);
        x.begin(3, 0L);
        x.add(0, 1L, 3);
        counts(x, 0, 0, 0);
        x.end(0);
        counts(x, 1, 3, 1);
        Check.put(x);
        counts(x, 1, 3, 2);
        x.sweep();
        counts(x, 0, 0, 0);
    }

    private static void fullStore() {
        Check.promise(19, "how many PARTS, bytes, BLOBS: as many as can be");
        ContentStore x = new ContentStore(2000);
        for (int blob = 0; blob < 20; blob++) {
            Check.put(x, Check.unshared(96, blob));
        }
        Check.put(x, Check.unshared(80, 20));
        counts(x, 125, 2000, 21);
        for (int mark = 0; mark < 21; mark++) {
            Check.put(x, Check.unshared(16, mark));
        }
        for (int mark = 0; mark < 18; mark++) {
            Check.put(x, Check.join(Check.unshared(16, mark), Check.unshared(16, mark + 1)));
        }
        counts(x, 125, 2000, 60);
    }

    private static void otherNumbers() {
        Check.promise(19, "NONE for others");
        ContentStore x = new ContentStore(100);
        int[] others = {-1, -2, -3, -4, 3, 4, 62, 63, 64, Integer.MIN_VALUE, Integer.MIN_VALUE + 2, Integer.MAX_VALUE};
        for (int what : others) {
            Check.due("count(" + what + "), no blob", x.count(what), -1);
        }
        Check.put(x, 1);
        Check.due("count(3), one blob", x.count(3), 1);
        Check.due("count(4), one blob", x.count(4), -1);
        Check.due("count(-1), one blob", x.count(-1), -1);
        Check.due("the least, one blob", x.count(Integer.MIN_VALUE), -1);
        Check.due("the greatest, one blob", x.count(Integer.MAX_VALUE), -1);
    }

    private static void goneBlob() {
        Check.promise(19, "NONE for a BLOB that is gone");
        ContentStore x = new ContentStore(100);
        Check.put(x, 1, 1);
        Check.put(x, Check.row(16, 2));
        Check.put(x, Check.row(17, 2));
        x.refer(0, 1);
        x.refer(1, 2);
        x.sweep();
        Check.due("a swept one", x.count(3), -1);
        Check.due("one that is there", x.count(4), 2);
        x.pack();
        x.cut(0, 16);
        Check.due("a lost one", x.count(5), -1);
        Check.due("one that is there, alone now", x.count(4), 1);
    }

    private static void withoutBytes() {
        Check.promise(19, "NONE for one without bytes");
        ContentStore x = new ContentStore(100);
        Check.put(x);
        Check.due("alone", x.count(3), -1);
        Check.put(x, 0);
        Check.due("beside one of a byte", x.count(3), -1);
        Check.due("the one of a byte", x.count(4), 1);
    }

    private static void lastOfSixty() {
        Check.promise(19, "3 and more: that of the BLOB what - 3");
        ContentStore x = new ContentStore(2000);
        for (int blob = 0; blob < 60; blob++) {
            Check.put(x, blob, blob);
        }
        Check.due("the first", x.count(3), 1);
        Check.due("the last", x.count(62), 1);
        Check.due("behind the last", x.count(63), -1);
    }

    private static void sharersFromOneToSixty() {
        Check.promise(19, "how many BLOBS have the first PART of a BLOB: from 1 to 60");
        ContentStore x = new ContentStore(100);
        int[] a = Check.unshared(16, 1);
        Check.put(x, a);
        for (int blob = 1; blob < 60; blob++) {
            Check.due("before blob " + blob, x.count(3), blob);
            Check.due("blob " + blob, Check.put(x, Check.join(a, Check.row(1, blob))), blob);
        }
        Check.due("of the first", x.count(3), 60);
        Check.due("of the last", x.count(62), 60);
    }

    private static void eachBlobOnce() {
        Check.promise(19, "each BLOB once");
        ContentStore x = new ContentStore(100);
        Check.put(x, Check.row(96, 1));
        Check.due("six times in one", x.count(3), 1);
        Check.put(x, Check.row(80, 1));
        Check.due("five times in another", x.count(3), 2);
        Check.due("the other's", x.count(4), 2);
    }

    private static void whateverItsPlace() {
        Check.promise(19, "whatever its place in it");
        int[] a = Check.unshared(16, 1);
        int[] b = Check.unshared(16, 2);
        ContentStore x = new ContentStore(100);
        Check.put(x, a);
        Check.put(x, Check.join(b, a));
        Check.put(x, Check.join(b, b, b, b, b, a));
        Check.put(x, b);
        Check.due("second and last", x.count(3), 3);
        Check.due("first, five times, alone", x.count(4), 3);
        Check.put(x, 7);
        Check.put(x, Check.join(b, Check.row(1, 7)));
        Check.due("a short one that is another's last", x.count(7), 2);
    }

    private static void asItLiesThere() {
        Check.promise(19, "as it lies there");
        ContentStore x = new ContentStore(100);
        Check.put(x, 1);
        Check.put(x, 2);
        x.poison(0, 0, 1 ^ 2);
        Check.due("alike by now, the first", x.count(3), 1);
        Check.due("alike by now, the second", x.count(4), 1);
        Check.put(x, Check.join(Check.row(16, 9), Check.row(1, 2)));
        Check.due("shared while altered", x.count(3), 2);
        x.poison(0, 0, 1 ^ 2);
        Check.due("shared still", x.count(3), 2);
    }

    private static void firstPartAlone() {
        Check.promise(19, "the first PART of a BLOB");
        int[] a = Check.unshared(16, 1);
        int[] b = Check.unshared(16, 2);
        ContentStore x = new ContentStore(100);
        Check.put(x, Check.join(a, b));
        Check.put(x, b);
        Check.due("its second is another's", x.count(3), 1);
        Check.due("its first is another's second", x.count(4), 2);
    }
}
