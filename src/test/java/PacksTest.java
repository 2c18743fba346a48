/** Promises 16 to 18: pack, cut, packOf. */
public final class PacksTest {
    public static void main(String[] args) {
        packing();
        packLimit();
        cutting();
        cutWrong();
        cutAmongSeveralPacks();
        cutBlobsWithoutBytes();
        cutLeavesSharedParts();
        Check.finish();
    }

    private static void packing() {
        ContentStore x = new ContentStore(200);
        Check.due("16: no blob", x.pack(), -1);
        Check.put(x, 1);
        Check.put(x, 2);
        Check.due("18: in none", x.packOf(0), -1);
        Check.due("16: pack", x.pack(), 0);
        Check.due("18: the first", x.packOf(0), 0);
        Check.due("18: the second", x.packOf(1), 0);
        Check.due("16: all are in one", x.pack(), -1);
        Check.put(x, 3);
        Check.put(x);
        x.poison(2, 0, 1);
        Check.due("18: a new one is in none", x.packOf(2), -1);
        Check.due("16: pack those", x.pack(), 1);
        Check.due("18: not sound, but in it", x.packOf(2), 1);
        Check.due("18: without bytes", x.packOf(3), 1);
        Check.due("18: the first is where it was", x.packOf(0), 0);
        Check.put(x, 4);
        x.sweep();
        Check.due("16: only one that is gone", x.pack(), -1);
        Check.due("18: gone", x.packOf(4), -1);
        int[] none = {-1, 5, 60, Integer.MIN_VALUE, Integer.MAX_VALUE};
        for (int blob : none) {
            Check.due("18: none such", x.packOf(blob), -1);
        }
    }

    private static void packLimit() {
        ContentStore x = new ContentStore(200);
        for (int pack = 0; pack < 12; pack++) {
            Check.put(x, pack);
            Check.due("16: packs", x.pack(), pack);
        }
        Check.put(x, 12);
        Check.due("16: a 13th", x.pack(), -1);
        Check.due("18: so it is in none", x.packOf(12), -1);
        Check.due("17: an empty one counts", x.cut(3, 0), 1);
        Check.due("16: so there are 12 still", x.pack(), -1);
        Check.due("17: the last", x.cut(11, 0), 1);
        Check.due("17: no 13th", x.cut(12, 0), -1);
        Check.due("15: sweep", x.sweep(), 1);
    }

    private static void cutting() {
        ContentStore x = new ContentStore(2000);
        Check.put(x, Check.row(20, 1));
        Check.put(x, Check.row(16, 2));
        Check.put(x, Check.row(30, 3));
        Check.put(x, Check.row(5, 4));
        x.refer(0, 1);
        x.refer(1, 2);
        x.refer(2, 3);
        x.refer(19, 2);
        x.pack();
        Check.due("17: beyond its end", x.cut(0, Integer.MAX_VALUE), 0);
        Check.due("17: at its end", x.cut(0, 71), 0);
        Check.due("17: one before its end", x.cut(0, 70), 1);
        Check.due("17: lost", x.there(3), false);
        Check.due("14: refers no longer", x.referred(2), -1);
        Check.due("18: nor in the pack", x.packOf(3), -1);
        Check.due("17: at the end of the third", x.cut(0, 66), 0);
        Check.due("17: within the second", x.cut(0, 35), 2);
        Check.due("17: the second is lost", x.there(1), false);
        Check.due("17: the third is lost", x.there(2), false);
        for (int action = 0; action < 20; action++) {
            Check.due("14: no action refers", x.referred(action), -1);
        }
        Check.due("17: the first is there", Check.has(x, 0, Check.row(20, 1)), true);
        Check.due("18: and in the pack", x.packOf(0), 0);
        Check.due("19: parts", x.count(0), 2);
        Check.due("19: bytes", x.count(1), 20);
        Check.due("15: sweep leaves it", x.sweep(), 0);
        Check.due("17: to nothing", x.cut(0, 0), 1);
        Check.due("17: an empty pack", x.cut(0, 0), 0);
        Check.due("19: blobs", x.count(2), 0);
        Check.due("4: the lost are put anew", Check.put(x, Check.row(16, 2)), 4);
        Check.due("18: in no pack", x.packOf(4), -1);
        Check.due("16: the next", x.pack(), 1);
    }

    private static void cutWrong() {
        ContentStore x = new ContentStore(200);
        Check.due("17: no pack yet", x.cut(0, 0), -1);
        Check.put(x, 1);
        x.pack();
        int[] none = {-1, 1, 12, Integer.MIN_VALUE, Integer.MAX_VALUE};
        for (int pack : none) {
            Check.due("17: no such pack", x.cut(pack, 0), -1);
        }
        Check.due("17: keep - 1", x.cut(0, -1), -1);
        Check.due("17: keep least", x.cut(0, Integer.MIN_VALUE), -1);
        Check.due("17: nothing was lost", x.there(0), true);
    }

    private static void cutAmongSeveralPacks() {
        ContentStore x = new ContentStore(200);
        Check.put(x, 1, 1);
        Check.put(x, 2, 2);
        x.refer(0, 1);
        x.pack();
        Check.put(x, 3, 3);
        Check.put(x, 4, 4);
        x.refer(1, 2);
        x.refer(2, 3);
        x.pack();
        Check.put(x, 5, 5);
        Check.due("17: the second pack", x.cut(1, 3), 1);
        Check.due("17: its second blob", x.there(3), false);
        Check.due("17: its first", x.there(2), true);
        Check.due("14: of its first", x.referred(1), 2);
        Check.due("17: the first pack", x.cut(0, 0), 2);
        Check.due("14: of that", x.referred(0), -1);
        Check.due("17: the second has its first still", x.there(2), true);
        Check.due("17: in none", x.there(4), true);
    }

    private static void cutBlobsWithoutBytes() {
        ContentStore x = new ContentStore(200);
        Check.put(x, 1, 1);
        Check.put(x);
        Check.put(x, 2, 2);
        x.pack();
        Check.due("17: at the very end of one without bytes", x.cut(0, 2), 1);
        Check.due("17: it stays", x.there(1), true);
        Check.due("17: within what lies before it", x.cut(0, 1), 2);
        Check.due("17: it is lost", x.there(1), false);
        ContentStore y = new ContentStore(200);
        Check.put(y);
        Check.put(y, 2, 2);
        y.pack();
        Check.due("17: cut to 0", y.cut(0, 0), 1);
        Check.due("17: without bytes, at 0", y.there(0), true);
        Check.due("18: in its pack", y.packOf(0), 0);
    }

    private static void cutLeavesSharedParts() {
        ContentStore x = new ContentStore(200);
        int[] a = Check.row(16, 1);
        Check.put(x, a);
        Check.put(x, Check.join(a, a, Check.row(1, 2)));
        x.pack();
        Check.due("17: cut", x.cut(0, 48), 1);
        Check.due("17: the shared part is kept", Check.has(x, 0, a), true);
        Check.due("19: parts", x.count(0), 1);
        Check.due("19: sharers", x.count(3), 1);
    }
}
