import java.util.ArrayList;
import java.util.List;

/**
 * A refused call alters nothing that later calls show: two stores are made alike, one of them is asked what must be
 * refused, and then both are asked the same. The same is held of calls that only look.
 */
public final class RefusedTest {
    private static final int[] NO_BLOBS = {0, 9, 10, 59, 60, -1, -2, Integer.MIN_VALUE, Integer.MAX_VALUE};
    private static final int[] NO_PLACES = {-1, 20, 31, 32, Integer.MIN_VALUE, Integer.MAX_VALUE};
    private static final int[] NO_ACTIONS = {-1, 20, Integer.MIN_VALUE, Integer.MAX_VALUE};

    private interface Maker {
        ContentStore make();
    }

    private interface Call {
        long on(ContentStore x);
    }

    public static void main(String[] args) {
        begin();
        add();
        end();
        endThatDiffersOrHasNoRoom();
        endThatIsAnother();
        looks();
        poison();
        mirror();
        repair();
        refer();
        sweep();
        pack();
        cut();
        Check.finish();
    }

    /**
     * Blob 0 is gone; 1 to 3 are in pack 0, 4 and 5 in pack 1, the others in none. 1 is sound, has a right copy and
     * shares its first part with 2, that has a wrong copy and no action; 3 has no bytes; 4 isn't sound and has a right
     * copy; 5 isn't sound and has none; 6 isn't sound and has a wrong one; 7 is sound and has none; 8 is alike 4's
     * bytes by poison, but not the same. Puts 9 and 10 are open.
     */
    private static ContentStore rich(int room) {
        ContentStore x = new ContentStore(room);
        Check.put(x, 5);
        x.mirror(0);
        x.sweep();
        Check.put(x, Check.unshared(20, 1));
        Check.put(x, Check.unshared(17, 1));
        Check.put(x);
        x.mirror(1);
        x.poison(2, 16, 3);
        x.mirror(2);
        x.poison(2, 16, 3);
        x.mirror(3);
        x.refer(0, 1);
        x.refer(3, 3);
        x.pack();
        Check.put(x, 40);
        x.mirror(4);
        Check.put(x, 50);
        x.pack();
        x.refer(4, 4);
        x.refer(19, 5);
        Check.put(x, 60);
        Check.put(x, 70);
        Check.put(x, 80);
        x.poison(4, 0, 1);
        x.poison(5, 0, 1);
        x.poison(6, 0, 1);
        x.mirror(6);
        x.poison(8, 0, 80 ^ 41);
        x.refer(7, 7);
        x.begin(20, 0L);
        x.begin(3, 0L);
        x.add(9, 0x0101010101010101L, 8);
        x.add(10, 7L, 1);
        return x;
    }

    private static ContentStore rich() {
        return rich(100);
    }

    /** All that the look of a store shows, and all that comes of it by and by; within 512 calls of one store. */
    private static List<Long> later(ContentStore x) {
        List<Long> shown = new ArrayList<>();
        look(x, shown);
        repairAll(x, shown);
        endPuts(x, shown);
        cutAll(x, shown);
        beginAll(x, shown);
        return shown;
    }

    private static void look(ContentStore x, List<Long> shown) {
        for (int blob = 0; blob < 11; blob++) {
            show(shown, x.there(blob));
            show(shown, x.sound(blob));
            shown.add(x.digest(blob));
            show(shown, x.size(blob), x.packOf(blob), x.count(blob + 3), x.get(blob, 0), x.get(blob, 16));
        }
        for (int action = 0; action < 20; action++) {
            show(shown, x.referred(action));
        }
        show(shown, x.count(0), x.count(1), x.count(2));
    }

    private static void repairAll(ContentStore x, List<Long> shown) {
        for (int blob = 1; blob < 10; blob++) {
            show(shown, x.repair(blob), x.get(blob, 0));
            show(shown, x.poison(blob, 0, 64));
            show(shown, x.repair(blob), x.get(blob, 0), x.count(blob + 3));
        }
    }

    private static void endPuts(ContentStore x, List<Long> shown) {
        show(shown, x.add(9, 0x0202020202020202L, 8), x.add(9, 0x03030303L, 4), x.end(9));
        show(shown, x.add(10, 0x0808L, 2), x.end(10));
        for (int blob = 9; blob < 11; blob++) {
            show(shown, x.size(blob), x.get(blob, 0), x.get(blob, 1), x.get(blob, 8), x.get(blob, 19));
        }
        for (int put = 11; put < 14; put++) {
            show(shown, x.end(put));
        }
        show(shown, x.count(0), x.count(1), x.count(2));
    }

    private static void cutAll(ContentStore x, List<Long> shown) {
        for (int pack = 0; pack < 13; pack++) {
            show(shown, x.cut(pack, 1));
        }
        for (int action = 0; action < 20; action++) {
            show(shown, x.referred(action));
        }
        show(shown, x.pack(), x.sweep(), x.count(0), x.count(1), x.count(2));
    }

    private static void beginAll(ContentStore x, List<Long> shown) {
        for (int time = 0; time < 56; time++) {
            int put = x.begin(0, 1L);
            show(shown, put, x.end(put));
        }
    }

    private static void show(List<Long> shown, int... answers) {
        for (int answer : answers) {
            shown.add((long) answer);
        }
    }

    private static void show(List<Long> shown, boolean answer) {
        shown.add(answer ? 1L : 0L);
    }

    private static void refused(String name, Maker maker, long due, Call call) {
        alikeBehind(name, maker, due, call, 0, x -> 0);
    }

    /** Behind this call on one store, and that on another, both show the same. */
    private static void alikeBehind(String name, Maker maker, long due, Call call, long thatDue, Call that) {
        ContentStore one = maker.make();
        ContentStore other = maker.make();
        Check.due(name, call.on(one), due);
        Check.due("in its place", that.on(other), thatDue);
        Check.due("all is alike behind " + name, later(one).equals(later(other)), true);
    }

    private static long of(boolean answer) {
        return answer ? 1 : 0;
    }

    private static void begin() {
        Check.promise(2, "NONE, and nothing is altered");
        int[] lengths = {-1, 97, Integer.MIN_VALUE, Integer.MAX_VALUE};
        for (int length : lengths) {
            refused("begin(" + length + ")", RefusedTest::rich, -1, x -> x.begin(length, 0L));
        }
        refused("begin, 4 open", () -> {
            ContentStore x = rich();
            x.begin(3, 0L);
            x.begin(0, 0L);
            return x;
        }, -1, x -> x.begin(0, 0L));
        refused("begin, 60 in all", () -> {
            ContentStore x = rich();
            for (int put = 11; put < 60; put++) {
                x.begin(0, 1L);
                x.end(put);
            }
            return x;
        }, -1, x -> x.begin(0, 0L));
    }

    private static void add() {
        Check.promise(3, "NONE, and none come");
        int[] noPuts = {-1, 0, 8, 11, 59, 60, Integer.MIN_VALUE, Integer.MAX_VALUE};
        for (int put : noPuts) {
            refused("add to put " + put, RefusedTest::rich, -1, x -> x.add(put, 1L, 1));
        }
        int[] numbers = {-1, 0, 9, Integer.MIN_VALUE, Integer.MAX_VALUE};
        for (int n : numbers) {
            refused("add of " + n, RefusedTest::rich, -1, x -> x.add(9, 1L, n));
        }
        refused("add of one too many", RefusedTest::rich, -1, x -> x.add(10, 1L, 3));
        refused("add of eight, two lack", RefusedTest::rich, -1, x -> x.add(10, 1L, 8));
    }

    private static void end() {
        Check.promise(4, "- 1 if there is no such OPEN one, and nothing is altered");
        int[] noPuts = {-1, 0, 8, 11, 59, 60, Integer.MIN_VALUE, Integer.MAX_VALUE};
        for (int put : noPuts) {
            refused("end of put " + put, RefusedTest::rich, -1, x -> x.end(put));
        }
    }

    /** What differs, or has no room, is as if it had never got a byte. */
    private static void endThatDiffersOrHasNoRoom() {
        Check.promise(4, "- 2 if it DIFFERS, - 3 if there is NO ROOM: the PUT is OPEN no longer, and that is all");
        alikeBehind("a put without a byte that lacks", () -> rich(50), -2, x -> putAndEnd(x, 1, 0L, 0),
                -2, x -> putAndEnd(x, 8, 0L, 7));
        alikeBehind("a put of another digest", () -> rich(50), -2, x -> putAndEnd(x, 8, 1L, 8),
                -2, x -> putAndEnd(x, 1, 0L, 0));
        alikeBehind("a put without room", () -> rich(25), -3, x -> putAndEnd(x, 8, 0L, 8),
                -2, x -> putAndEnd(x, 1, 0L, 0));
        alikeBehind("a put that shares a part, without room", () -> rich(25), -3,
                x -> Check.put(x, Check.join(Check.unshared(16, 1), Check.row(8, 9))), -2, x -> putAndEnd(x, 1, 0L, 0));
    }

    private static long putAndEnd(ContentStore x, int length, long xor, int n) {
        int put = x.begin(length, xor);
        x.add(put, 0x0F0E0D0C0B0A0908L, n);
        return x.end(put);
    }

    private static void endThatIsAnother() {
        Check.promise(4, "it is that one, and nothing else is altered");
        alikeBehind("a put of a blob's bytes", RefusedTest::rich, 1, x -> Check.put(x, Check.unshared(20, 1)),
                -2, x -> putAndEnd(x, 1, 0L, 0));
        alikeBehind("a put without bytes", RefusedTest::rich, 3, x -> Check.put(x), -2, x -> putAndEnd(x, 1, 0L, 0));
    }

    private static void looks() {
        for (int blob = -2; blob < 12; blob++) {
            int asked = blob;
            ContentStore y = rich();
            Check.promise(5, "a look alters nothing");
            refused("there", RefusedTest::rich, of(y.there(asked)), x -> of(x.there(asked)));
            Check.promise(6, "a look alters nothing");
            refused("digest", RefusedTest::rich, y.digest(asked), x -> x.digest(asked));
            Check.promise(7, "a look alters nothing");
            refused("size", RefusedTest::rich, y.size(asked), x -> x.size(asked));
            Check.promise(8, "a look alters nothing");
            refused("get", RefusedTest::rich, y.get(asked, 0), x -> x.get(asked, 0));
            refused("get behind its end", RefusedTest::rich, -1, x -> x.get(asked, 20));
            Check.promise(10, "a look alters nothing");
            refused("sound", RefusedTest::rich, of(y.sound(asked)), x -> of(x.sound(asked)));
            Check.promise(14, "a look alters nothing");
            refused("referred", RefusedTest::rich, y.referred(asked), x -> x.referred(asked));
            Check.promise(18, "a look alters nothing");
            refused("packOf", RefusedTest::rich, y.packOf(asked), x -> x.packOf(asked));
            Check.promise(19, "a look alters nothing");
            refused("count", RefusedTest::rich, y.count(asked), x -> x.count(asked));
        }
    }

    private static void poison() {
        Check.promise(9, "false, and nothing is altered");
        for (int blob : NO_BLOBS) {
            refused("poison of blob " + blob, RefusedTest::rich, 0, x -> of(x.poison(blob, 0, 1)));
        }
        for (int i : NO_PLACES) {
            refused("poison of byte " + i, RefusedTest::rich, 0, x -> of(x.poison(1, i, 1)));
        }
        refused("poison without bytes", RefusedTest::rich, 0, x -> of(x.poison(3, 0, 1)));
        int[] masks = {0, 256, -256, Integer.MIN_VALUE};
        for (int mask : masks) {
            refused("poison by " + mask, RefusedTest::rich, 0, x -> of(x.poison(1, 0, mask)));
        }
    }

    private static void mirror() {
        Check.promise(11, "false, and nothing is altered");
        for (int blob : NO_BLOBS) {
            refused("mirror of blob " + blob, RefusedTest::rich, 0, x -> of(x.mirror(blob)));
        }
    }

    private static void repair() {
        Check.promise(12, "0, - 1, - 2, - 3, and nothing is done");
        refused("repair of one that is sound", RefusedTest::rich, 0, x -> x.repair(1));
        refused("repair of one that is sound, with a wrong copy", RefusedTest::rich, 0, x -> x.repair(2));
        refused("repair of one without bytes", RefusedTest::rich, 0, x -> x.repair(3));
        for (int blob : NO_BLOBS) {
            refused("repair of blob " + blob, RefusedTest::rich, -1, x -> x.repair(blob));
        }
        refused("repair without a copy", RefusedTest::rich, -2, x -> x.repair(5));
        refused("repair with a wrong copy", RefusedTest::rich, -2, x -> x.repair(6));
        refused("repair without room", () -> rich(26), -3, x -> x.repair(4));
        refused("repair without room for all", () -> {
            ContentStore x = rich(44);
            x.poison(1, 0, 1);
            x.poison(1, 16, 1);
            return x;
        }, -3, x -> x.repair(1));
    }

    private static void refer() {
        Check.promise(13, "false, and nothing is altered");
        for (int action : NO_ACTIONS) {
            refused("refer of action " + action, RefusedTest::rich, 0, x -> of(x.refer(action, 7)));
            refused("refer of action " + action + " to none", RefusedTest::rich, 0, x -> of(x.refer(action, -1)));
        }
        for (int blob : NO_BLOBS) {
            if (blob != ContentStore.NONE) {
                refused("refer to blob " + blob, RefusedTest::rich, 0, x -> of(x.refer(0, blob)));
            }
        }
    }

    private static void sweep() {
        Check.promise(15, "0 if none went, and nothing is altered");
        refused("sweep of none", () -> {
            ContentStore x = rich();
            x.refer(8, 6);
            x.refer(9, 8);
            return x;
        }, 0, x -> x.sweep());
    }

    private static void pack() {
        Check.promise(16, "NONE, and nothing is altered");
        refused("pack of none", () -> {
            ContentStore x = rich();
            x.pack();
            return x;
        }, -1, x -> x.pack());
        refused("pack, 12 there", () -> {
            ContentStore x = new ContentStore(100);
            for (int pack = 0; pack < 12; pack++) {
                Check.put(x, pack);
                x.pack();
            }
            Check.put(x, 99);
            return x;
        }, -1, x -> x.pack());
    }

    private static void cut() {
        Check.promise(17, "NONE, or 0 if none is LOST, and nothing is altered");
        int[] noPacks = {-1, 2, 11, 12, Integer.MIN_VALUE, Integer.MAX_VALUE};
        for (int pack : noPacks) {
            refused("cut of pack " + pack, RefusedTest::rich, -1, x -> x.cut(pack, 0));
        }
        refused("cut to - 1", RefusedTest::rich, -1, x -> x.cut(0, -1));
        refused("cut to the least", RefusedTest::rich, -1, x -> x.cut(0, Integer.MIN_VALUE));
        refused("cut at its end", RefusedTest::rich, 0, x -> x.cut(0, 37));
        refused("cut beyond its end", RefusedTest::rich, 0, x -> x.cut(0, Integer.MAX_VALUE));
    }
}
