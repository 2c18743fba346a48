/** Promise 19: count. */
public final class CountTest {
    public static void main(String[] args) {
        partsBytesBlobs();
        sharers();
        sharersAsTheyLie();
        wrong();
        Check.finish();
    }

    private static void partsBytesBlobs() {
        ContentStore x = new ContentStore(200);
        Check.put(x, Check.join(Check.row(16, 1), Check.row(3, 2)));
        Check.put(x, Check.join(Check.row(16, 1), Check.row(4, 2)));
        Check.put(x, Check.row(3, 2));
        Check.put(x);
        Check.due("19: parts", x.count(0), 3);
        Check.due("19: bytes", x.count(1), 23);
        Check.due("19: blobs", x.count(2), 4);
        x.poison(0, 0, 1);
        Check.due("19: parts, not sound", x.count(0), 3);
        Check.due("19: blobs, not sound", x.count(2), 4);
        x.refer(0, 1);
        x.sweep();
        Check.due("19: parts behind a sweep", x.count(0), 2);
        Check.due("19: bytes behind it", x.count(1), 20);
        Check.due("19: blobs behind it", x.count(2), 1);
    }

    private static void sharers() {
        ContentStore x = new ContentStore(200);
        int[] a = Check.row(16, 1);
        int[] b = Check.row(16, 2);
        Check.put(x, Check.join(a, b));
        Check.put(x, Check.join(b, a, a));
        Check.put(x, Check.join(b, b));
        Check.put(x, Check.row(15, 1));
        Check.due("19: first part a", x.count(3), 2);
        Check.due("19: first part b", x.count(4), 3);
        Check.due("19: first part b, twice", x.count(5), 3);
        Check.due("19: a shorter part", x.count(6), 1);
    }

    private static void sharersAsTheyLie() {
        ContentStore x = new ContentStore(200);
        Check.put(x, 1);
        Check.put(x, 3);
        x.poison(0, 0, 2);
        Check.due("19: alike by now, but not the same", x.count(3), 1);
        Check.due("19: nor the other", x.count(4), 1);
        Check.put(x, Check.join(Check.row(16, 7), Check.row(1, 3)));
        Check.due("19: the first made is shared", x.count(3), 2);
        Check.due("19: not the second", x.count(4), 1);
        x.refer(0, 0);
        x.sweep();
        Check.due("19: a gone one has none", x.count(3), 1);
    }

    private static void wrong() {
        ContentStore x = new ContentStore(200);
        Check.put(x, 1);
        Check.put(x);
        Check.put(x, 2);
        Check.due("19: a blob without bytes", x.count(4), -1);
        Check.due("19: a blob behind it", x.count(5), 1);
        int[] none = {-1, -3, 6, 62, 63, 64, Integer.MIN_VALUE, Integer.MAX_VALUE};
        for (int what : none) {
            Check.due("19: no such", x.count(what), -1);
        }
        x.refer(0, 0);
        x.sweep();
        Check.due("19: a gone one", x.count(5), -1);
    }
}
