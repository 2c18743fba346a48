/**
 * "An object is used for at most 512 calls after it has been made": each promise holds up to the 512th. What later
 * calls answer is free, but they end, and the machine throws in none of them.
 */
public final class LastCallTest {
    private static final int LAST = 512;

    public static void main(String[] args) {
        lastLook();
        lastRefer();
        lastRepair();
        lastAdd();
        lastSweep();
        lastCut();
        lastPut();
        laterCalls();
        Check.finish();
    }

    /** A store with one blob of a byte, for which three calls went. */
    private static ContentStore withByte() {
        ContentStore x = new ContentStore(2000);
        x.begin(1, 0L);
        x.add(0, 9L, 1);
        x.end(0);
        return x;
    }

    private static void lastLook() {
        Check.promise(8, "the 512th call");
        ContentStore x = withByte();
        for (int call = 4; call < LAST; call++) {
            Check.due("call " + call, x.get(0, 0), 9);
        }
        Check.due("the last", x.get(0, 0), 9);
    }

    private static void lastRefer() {
        Check.promise(13, "the 512th call");
        ContentStore x = withByte();
        for (int call = 4; call < LAST - 1; call++) {
            Check.due("call " + call, x.refer(call % 20, call % 2 - 1), true);
        }
        Check.due("the last but one", x.refer(19, 0), true);
        Check.due("the last", x.referred(19), 0);
    }

    private static void lastRepair() {
        Check.promise(12, "the 512th call");
        ContentStore x = withByte();
        x.mirror(0);
        for (int call = 5; call < LAST; call += 2) {
            Check.due("call " + call, x.poison(0, 0, call), true);
            Check.due("call " + (call + 1), x.repair(0), 1);
        }
    }

    private static void lastAdd() {
        Check.promise(3, "the 512th call");
        ContentStore x = new ContentStore(2000);
        int call = 0;
        for (int put = 0; put < 5; put++) {
            x.begin(96, 0L);
            for (int had = 1; had <= 96; had++) {
                Check.due("byte " + had, x.add(put, put, 1), had);
            }
            Check.due("end", x.end(put), put);
            call += 98;
        }
        x.begin(96, 0L);
        for (call++; call < LAST - 1; call++) {
            x.add(5, 1L, 1);
        }
        Check.due("the last", x.add(5, 1L, 8), 28);
    }

    private static void lastSweep() {
        Check.promise(15, "the 512th call");
        ContentStore x = withByte();
        x.refer(0, 0);
        for (int call = 5; call < LAST - 1; call++) {
            Check.due("call " + call, x.sweep(), 0);
        }
        x.refer(0, -1);
        Check.due("the last", x.sweep(), 1);
    }

    private static void lastCut() {
        Check.promise(17, "the 512th call");
        ContentStore x = withByte();
        x.pack();
        for (int call = 5; call < LAST; call++) {
            Check.due("call " + call, x.cut(0, call), 0);
        }
        Check.due("the last", x.cut(0, 0), 1);
    }

    /** As many puts, blobs, parts and bytes as an object can have. */
    private static void lastPut() {
        Check.promise(4, "the 512th call");
        ContentStore x = new ContentStore(2000);
        int call = 0;
        for (int put = 0; put < 59; put++) {
            Check.due("blob " + put, Check.put(x, Check.unshared(33, put)), put);
            call += 7;
        }
        Check.due("its room, as far as it goes", x.count(1), 59 * 33);
        x.begin(33, 0L);
        for (int at = 0; at < 4; at++) {
            x.add(59, 99L, 8);
        }
        x.add(59, 99L, 1);
        for (call += 7; call < LAST - 1; call++) {
            x.mirror(call % 60);
        }
        Check.due("the last", x.end(59), 59);
    }

    private static void laterCalls() {
        Check.promise(1, "calls behind the 512th end");
        ContentStore x = withByte();
        int[] odd = {0, 1, 59, 60, -1, Integer.MIN_VALUE, Integer.MAX_VALUE};
        for (int time = 0; time < 20; time++) {
            for (int a : odd) {
                for (int b : odd) {
                    allCalls(x, a, b);
                }
            }
        }
    }

    private static void allCalls(ContentStore x, int a, int b) {
        x.begin(a, b);
        x.add(a, b, a);
        x.add(a, a, b);
        x.end(a);
        x.there(a);
        x.digest(a);
        x.size(a);
        x.get(a, b);
        x.poison(a, b, b);
        x.poison(b, a, 1);
        x.sound(a);
        x.mirror(a);
        x.repair(a);
        x.refer(a, b);
        x.referred(a);
        x.cut(a, b);
        x.packOf(a);
        x.count(a);
        x.pack();
        if (a == 60 && b == 60) {
            x.sweep();
        }
    }
}
