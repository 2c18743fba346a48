/** Promises 5 to 8: there, digest, size, get. */
public final class BlobsTest {
    private static final int[] NUMBERS_OF_NONE = {-1, 3, 59, 60, 61, Integer.MIN_VALUE, Integer.MAX_VALUE};

    public static void main(String[] args) {
        blobsThatAreThere();
        blobsThatAreNot();
        digestsAndSizesStay();
        bytes();
        Check.finish();
    }

    private static ContentStore threeBlobs() {
        ContentStore x = new ContentStore(2000);
        Check.put(x, 1, 2, 3);
        Check.put(x);
        Check.put(x, Check.row(96, 255));
        return x;
    }

    private static void blobsThatAreThere() {
        ContentStore x = threeBlobs();
        for (int blob = 0; blob < 3; blob++) {
            Check.due("5: there", x.there(blob), true);
        }
        Check.due("6: digest", x.digest(0), Check.digest(1, 2, 3));
        Check.due("6: digest of no bytes", x.digest(1), 0L);
        Check.due("6: digest of 96", x.digest(2), Check.digest(Check.row(96, 255)));
        Check.due("7: size", x.size(0), 3);
        Check.due("7: size of no bytes", x.size(1), 0);
        Check.due("7: size of 96", x.size(2), 96);
    }

    private static void blobsThatAreNot() {
        ContentStore x = threeBlobs();
        for (int blob : NUMBERS_OF_NONE) {
            noneSuch(x, blob);
        }
        x.refer(0, 0);
        x.sweep();
        noneSuch(x, 1);
        noneSuch(x, 2);
        Check.due("5: there still", x.there(0), true);
        x.pack();
        x.cut(0, 2);
        noneSuch(x, 0);
    }

    private static void noneSuch(ContentStore x, int blob) {
        Check.due("5: none there", x.there(blob), false);
        Check.due("6: no digest", x.digest(blob), 0L);
        Check.due("7: no size", x.size(blob), -1);
        Check.due("8: no byte", x.get(blob, 0), -1);
        Check.due("9: no poison", x.poison(blob, 0, 1), false);
        Check.due("10: not sound", x.sound(blob), false);
        Check.due("11: no mirror", x.mirror(blob), false);
        Check.due("12: no repair", x.repair(blob), -1);
        Check.due("18: no pack", x.packOf(blob), -1);
        if (blob != -1) {
            Check.due("13: no refer", x.refer(3, blob), false);
        }
        if (blob >= 0 && blob < 100) {
            Check.due("19: no count", x.count(blob + 3), -1);
        }
    }

    private static void digestsAndSizesStay() {
        ContentStore x = threeBlobs();
        x.poison(0, 1, 77);
        Check.due("5: a poisoned one is there", x.there(0), true);
        Check.due("6: the digest as it was put", x.digest(0), Check.digest(1, 2, 3));
        Check.due("7: the size", x.size(0), 3);
    }

    private static void bytes() {
        ContentStore x = new ContentStore(2000);
        int[] row = new int[37];
        for (int i = 0; i < row.length; i++) {
            row[i] = 255 - i;
        }
        Check.put(x, row);
        for (int i = 0; i < row.length; i++) {
            Check.due("8: get", x.get(0, i), 255 - i);
        }
        int[] beyond = {-1, -16, 37, 38, 47, 48, 96, Integer.MIN_VALUE, Integer.MAX_VALUE};
        for (int i : beyond) {
            Check.due("8: get beyond", x.get(0, i), -1);
        }
        Check.due("9: poison", x.poison(0, 20, 1), true);
        for (int i = 0; i < row.length; i++) {
            Check.due("8: get, not sound", x.get(0, i), -2);
        }
        for (int i : beyond) {
            Check.due("8: get beyond, not sound", x.get(0, i), -1);
        }
    }
}
