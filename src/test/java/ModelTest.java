import java.util.Random;

/** All promises together: many runs of 512 calls, each call's answer held against the model's. */
public final class ModelTest {
    private static final int RUNS = 3000;
    private static final int CALLS = 512;
    private static final int[] ROOMS = {-1, 0, 1, 16, 20, 33, 48, 64, 100, 150, 300, 2000, 5000};
    private static final int[] ODD = {-2, -1, 60, 61, 97, Integer.MIN_VALUE, Integer.MAX_VALUE};

    private final Random random;
    private final ContentStore store;
    private final Model model;
    private final int run;
    private int call;
    private int lastPut = 0;
    private int lastBlob = 0;

    private ModelTest(int run) {
        this.run = run;
        random = new Random(run);
        int room = ROOMS[random.nextInt(ROOMS.length)];
        store = new ContentStore(room);
        model = new Model(room);
    }

    public static void main(String[] args) {
        for (int run = 0; run < RUNS && !Check.anyWrong(); run++) {
            ModelTest test = new ModelTest(run);
            while (test.call < CALLS && !Check.anyWrong()) {
                test.step();
            }
        }
        Check.finish();
    }

    private void due(String name, long got, long want) {
        call++;
        // A step may go on behind the last call that the document promises an answer to.
        if (call <= CALLS) {
            Check.due("run " + run + ", call " + call + ": " + name, got, want);
        }
    }

    private void due(String name, boolean got, boolean want) {
        due(name, got ? 1L : 0L, want ? 1L : 0L);
    }

    private int pick(int below) {
        return random.nextInt(40) == 0 ? ODD[random.nextInt(ODD.length)] : random.nextInt(Math.max(1, below));
    }

    private int blob() {
        return pick(lastBlob + 2);
    }

    private void step() {
        switch (random.nextInt(14)) {
            case 0 -> begin(pick(97));
            case 1 -> add(pick(lastPut + 2), random.nextLong() & 0x0303030303030303L, random.nextInt(10));
            case 2 -> end(pick(lastPut + 2));
            case 3, 4 -> putRow();
            case 5, 6 -> poison();
            case 7 -> mirror(blob());
            case 8 -> repair(blob());
            case 9 -> refer(pick(20), random.nextInt(4) == 0 ? -1 : blob());
            case 10 -> packOrCut();
            default -> look();
        }
    }

    private void begin(int length) {
        long xor = random.nextInt(8) == 0 ? random.nextLong() : 0L;
        int want = model.begin(length, xor);
        due("begin(" + length + ", " + xor + ")", store.begin(length, xor), want);
        lastPut = Math.max(lastPut, want);
    }

    private void add(int put, long w, int n) {
        due("add(" + put + ", " + w + ", " + n + ")", store.add(put, w, n), model.add(put, w, n));
    }

    private void end(int put) {
        int want = model.end(put);
        due("end(" + put + ")", store.end(put), want);
        lastBlob = Math.max(lastBlob, want);
    }

    /** A row of few kinds of parts, so that blobs share them and poisoned ones become alike. */
    private void putRow() {
        int length = random.nextBoolean() ? 16 * random.nextInt(4) : random.nextInt(40);
        int put = model.begin(length, 0L);
        due("begin(" + length + ", 0)", store.begin(length, 0L), put);
        lastPut = Math.max(lastPut, put);
        int kind = 0;
        for (int at = 0; at < length; at += 8) {
            kind = at % 16 == 0 ? random.nextInt(3) : kind;
            add(put, kind * 0x0101010101010101L, Math.min(8, length - at));
        }
        end(put);
    }

    private void poison() {
        int blob = blob();
        // Few places and masks, so that a poisoned byte comes back, or a part becomes like another.
        int i = random.nextInt(3) == 0 ? pick(40) : 16 * random.nextInt(3);
        int mask = random.nextInt(8) == 0 ? random.nextInt() : random.nextInt(4) | 256;
        due("poison(" + blob + ", " + i + ", " + mask + ")", store.poison(blob, i, mask), model.poison(blob, i, mask));
        if (random.nextInt(4) == 0) {
            for (int k = 0; k < 16; k++) {
                due("poison(" + blob + ", " + k + ", 1)", store.poison(blob, k, 1), model.poison(blob, k, 1));
            }
        }
    }

    private void mirror(int blob) {
        due("mirror(" + blob + ")", store.mirror(blob), model.mirror(blob));
    }

    private void repair(int blob) {
        due("repair(" + blob + ")", store.repair(blob), model.repair(blob));
    }

    private void refer(int action, int blob) {
        due("refer(" + action + ", " + blob + ")", store.refer(action, blob), model.refer(action, blob));
    }

    private void packOrCut() {
        int kind = random.nextInt(8);
        if (kind == 0) {
            due("sweep()", store.sweep(), model.sweep());
        } else if (kind < 3) {
            due("pack()", store.pack(), model.pack());
        } else if (kind < 5) {
            int pack = pick(4);
            int keep = pick(random.nextInt(3) == 0 ? 20 : 150);
            due("cut(" + pack + ", " + keep + ")", store.cut(pack, keep), model.cut(pack, keep));
        }
    }

    private void look() {
        int blob = blob();
        int i = pick(50);
        due("there(" + blob + ")", store.there(blob), model.there(blob));
        due("digest(" + blob + ")", store.digest(blob), model.digest(blob));
        due("size(" + blob + ")", store.size(blob), model.size(blob));
        due("get(" + blob + ", " + i + ")", store.get(blob, i), model.get(blob, i));
        due("sound(" + blob + ")", store.sound(blob), model.sound(blob));
        due("packOf(" + blob + ")", store.packOf(blob), model.packOf(blob));
        int action = pick(20);
        due("referred(" + action + ")", store.referred(action), model.referred(action));
        for (int what = 0; what < 3; what++) {
            due("count(" + what + ")", store.count(what), model.count(what));
        }
        int what = pick(lastBlob + 5);
        due("count(" + what + ")", store.count(what), model.count(what));
    }
}
