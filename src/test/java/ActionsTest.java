/** Promises 13 to 15: refer, referred, sweep. */
public final class ActionsTest {
    public static void main(String[] args) {
        referTo();
        referWrong();
        sweepTakesWhatNothingHas();
        sweepLeavesPacks();
        sweepLeavesSharedParts();
        Check.finish();
    }

    private static ContentStore threeBlobs() {
        ContentStore x = new ContentStore(200);
        Check.put(x, 1);
        Check.put(x, 2);
        Check.put(x);
        return x;
    }

    private static void referTo() {
        ContentStore x = threeBlobs();
        Check.due("13: refer", x.refer(0, 1), true);
        Check.due("13: the last action", x.refer(19, 1), true);
        Check.due("14: referred", x.referred(0), 1);
        Check.due("14: of the last action", x.referred(19), 1);
        Check.due("14: of another", x.referred(1), -1);
        Check.due("13: to another blob", x.refer(0, 2), true);
        Check.due("14: to which", x.referred(0), 2);
        Check.due("14: the other stays", x.referred(19), 1);
        Check.due("13: to none", x.refer(0, -1), true);
        Check.due("14: to none", x.referred(0), -1);
        Check.due("13: to none again", x.refer(0, -1), true);
        x.poison(0, 0, 1);
        Check.due("13: to one that isn't sound", x.refer(5, 0), true);
        Check.due("14: to that", x.referred(5), 0);
    }

    private static void referWrong() {
        ContentStore x = threeBlobs();
        x.refer(4, 1);
        int[] noActions = {-1, 20, 21, Integer.MIN_VALUE, Integer.MAX_VALUE};
        for (int action : noActions) {
            Check.due("13: no such action", x.refer(action, 0), false);
            Check.due("13: no such action, to none", x.refer(action, -1), false);
            Check.due("14: no such action", x.referred(action), -1);
        }
        int[] noBlobs = {-2, 3, 60, Integer.MIN_VALUE, Integer.MAX_VALUE};
        for (int blob : noBlobs) {
            Check.due("13: no such blob", x.refer(4, blob), false);
            Check.due("14: as before", x.referred(4), 1);
        }
        x.sweep();
        Check.due("13: a blob that is gone", x.refer(4, 0), false);
        Check.due("14: as before still", x.referred(4), 1);
    }

    private static void sweepTakesWhatNothingHas() {
        ContentStore x = threeBlobs();
        x.refer(0, 1);
        x.refer(19, 1);
        x.mirror(0);
        Check.due("15: sweep", x.sweep(), 2);
        Check.due("15: went", x.there(0), false);
        Check.due("15: went, without bytes", x.there(2), false);
        Check.due("15: stays", Check.has(x, 1, 2), true);
        Check.due("15: parts", x.count(0), 1);
        Check.due("15: bytes", x.count(1), 1);
        Check.due("15: blobs", x.count(2), 1);
        Check.due("15: again", x.sweep(), 0);
        x.refer(0, -1);
        Check.due("15: the last action still refers", x.sweep(), 0);
        x.refer(19, -1);
        Check.due("15: nothing refers", x.sweep(), 1);
        Check.due("15: numbers go on", Check.put(x, 2), 3);
        Check.due("15: blobs", x.count(2), 1);
    }

    private static void sweepLeavesPacks() {
        ContentStore x = threeBlobs();
        x.pack();
        Check.put(x, 3);
        Check.due("15: those in no pack", x.sweep(), 1);
        Check.due("15: in a pack", x.there(0), true);
        Check.due("15: in a pack, without bytes", x.there(2), true);
        Check.due("15: in none", x.there(3), false);
    }

    private static void sweepLeavesSharedParts() {
        ContentStore x = new ContentStore(200);
        int[] a = Check.row(16, 1);
        int[] b = Check.row(16, 2);
        Check.put(x, Check.join(a, a, b));
        Check.put(x, Check.join(b, Check.row(2, 7)));
        x.refer(7, 1);
        Check.due("15: sweep", x.sweep(), 1);
        Check.due("15: a shared part is kept", Check.has(x, 1, Check.join(b, Check.row(2, 7))), true);
        Check.due("15: parts", x.count(0), 2);
        Check.due("15: bytes", x.count(1), 18);
    }
}
