import java.util.Arrays;

/** What the tests of the project share: answers that are due, rows of bytes, and puts of whole rows. */
final class Check {
    private static int asked = 0;
    private static int wrong = 0;
    private static String sentence = "";

    private Check() {
    }

    /** From here on the answers are held against these words of a promise, or of the terms that it stands on. */
    static void promise(int number, String words) {
        sentence = "promise " + number + " (" + words + "): ";
    }

    static void due(String call, long got, long want) {
        asked++;
        if (got != want) {
            wrong++;
            System.out.println(sentence + call + " answered " + got + ", due is " + want);
        }
    }

    static void due(String call, boolean got, boolean want) {
        due(call, got ? 1L : 0L, want ? 1L : 0L);
    }

    static boolean anyWrong() {
        return wrong != 0;
    }

    static void finish() {
        System.out.println(wrong == 0 ? asked + " answers are as due" : wrong + " of " + asked + " answers are not as due");
        if (wrong != 0) {
            System.exit(1);
        }
    }

    /** A row of so many bytes, all the same. */
    static int[] row(int length, int value) {
        int[] bytes = new int[length];
        Arrays.fill(bytes, value);
        return bytes;
    }

    /** A row of so many bytes, of which no two parts are alike, nor like those of a row with another mark (0 .. 255). */
    static int[] unshared(int length, int mark) {
        int[] bytes = new int[length];
        for (int i = 0; i < length; i++) {
            bytes[i] = i % 16 == 0 ? mark : 100 + i / 16;
        }
        return bytes;
    }

    /** Rows one behind the other. */
    static int[] join(int[]... rows) {
        int length = 0;
        for (int[] row : rows) {
            length += row.length;
        }
        int[] joined = new int[length];
        int at = 0;
        for (int[] row : rows) {
            System.arraycopy(row, 0, joined, at, row.length);
            at += row.length;
        }
        return joined;
    }

    /** Puts a whole row, eight bytes at a time, and answers what end answers. */
    static int put(ContentStore store, int... bytes) {
        int put = store.begin(bytes.length, 0L);
        for (int at = 0; at < bytes.length; at += 8) {
            int n = Math.min(8, bytes.length - at);
            long w = 0;
            for (int i = 0; i < n; i++) {
                w = w << 8 | bytes[at + i];
            }
            store.add(put, w, n);
        }
        return store.end(put);
    }

    /** Whether a blob is sound and has just these bytes. */
    static boolean has(ContentStore store, int blob, int... bytes) {
        if (store.size(blob) != bytes.length || !store.sound(blob)) {
            return false;
        }
        for (int i = 0; i < bytes.length; i++) {
            if (store.get(blob, i) != bytes[i]) {
                return false;
            }
        }
        return true;
    }

    static int sum(int... bytes) {
        int s = 0;
        for (int b : bytes) {
            s = Integer.rotateLeft(s ^ b, 5) * 0x85EBCA77;
        }
        return s;
    }

    static long digest(int... bytes) {
        long d = bytes.length;
        for (int b : bytes) {
            d = (d ^ b) * 0x100000001B3L;
            d ^= d >>> 29;
        }
        return d;
    }
}
