/** Promises 9 to 12: poison, sound, mirror, repair. */
public final class RepairTest {
    public static void main(String[] args) {
        poisonMasks();
        poisonPlaces();
        poisonSharedParts();
        poisonKeepsPartsApart();
        soundBySum();
        mirrorCopies();
        repairAnswers();
        repairOrder();
        repairNeedsRoom();
        repairMakesPartOnce();
        repairKeepsRightParts();
        repairFindsPartMadeFirst();
        repairFindsOwnOtherPart();
        Check.finish();
    }

    private static void poisonMasks() {
        ContentStore x = new ContentStore(100);
        Check.put(x, 1, 2, 3);
        Check.due("9: mask 0", x.poison(0, 1, 0), false);
        Check.due("9: mask 256", x.poison(0, 1, 256), false);
        Check.due("9: mask least", x.poison(0, 1, Integer.MIN_VALUE), false);
        Check.due("9: still sound", x.sound(0), true);
        Check.due("9: mask 257", x.poison(0, 1, 257), true);
        Check.due("9: not sound", x.sound(0), false);
        Check.due("9: its lowest eight bits back", x.poison(0, 1, 1), true);
        Check.due("9: has its bytes again", Check.has(x, 0, 1, 2, 3), true);
        Check.due("9: mask - 1", x.poison(0, 2, -1), true);
        Check.due("9: mask 255 back", x.poison(0, 2, 255), true);
        Check.due("9: has its bytes again", Check.has(x, 0, 1, 2, 3), true);
    }

    private static void poisonPlaces() {
        ContentStore x = new ContentStore(100);
        Check.put(x, Check.join(Check.row(16, 1), Check.row(16, 2), Check.row(3, 3)));
        int[] beyond = {-1, 35, 36, 47, 48, Integer.MIN_VALUE, Integer.MAX_VALUE};
        for (int i : beyond) {
            Check.due("9: beyond", x.poison(0, i, 1), false);
        }
        Check.due("9: still sound", x.sound(0), true);
        for (int i = 0; i < 35; i++) {
            Check.due("9: each place", x.poison(0, i, 64), true);
            Check.due("10: isn't sound then", x.sound(0), false);
            x.poison(0, i, 64);
            Check.due("10: is sound again", x.sound(0), true);
        }
    }

    private static void poisonSharedParts() {
        ContentStore x = new ContentStore(200);
        int[] a = Check.row(16, 1);
        int[] b = Check.row(16, 2);
        Check.put(x, Check.join(a, b));
        Check.put(x, Check.join(b, b, a));
        Check.put(x, a);
        x.poison(0, 17, 5);
        Check.due("9: the one", x.sound(0), false);
        Check.due("9: one that shares it", x.sound(1), false);
        Check.due("9: one that doesn't", x.sound(2), true);
        x.poison(1, 1, 5);
        Check.due("9: back by way of another", x.sound(0), true);
        x.poison(1, 17, 5);
        Check.due("9: a part that it has twice", x.sound(0), false);
        x.poison(1, 1, 5);
        Check.due("9: back by its other place", Check.has(x, 1, Check.join(b, b, a)), true);
    }

    private static void poisonKeepsPartsApart() {
        ContentStore x = new ContentStore(200);
        Check.put(x, 1);
        Check.put(x, 3);
        x.poison(0, 0, 2);
        Check.due("9: alike by now, but two", x.count(0), 2);
        Check.due("9: the other has its own", x.count(4), 1);
        x.poison(1, 0, 2);
        Check.due("9: and is altered alone", x.poison(0, 0, 2), true);
        Check.due("9: sound", x.sound(0), true);
        Check.due("9: not sound", x.sound(1), false);
    }

    /** A blob that is altered to other bytes with the same sum is sound: the sum alone tells. */
    private static void soundBySum() {
        int[] one = {0, 0, 0, 0, 0, 0};
        int[] other = sameSum(one);
        Check.due("10: sums are the same", Check.sum(one), Check.sum(other));
        ContentStore x = new ContentStore(200);
        Check.put(x, one);
        boolean between = false;
        for (int i = 0; i < one.length; i++) {
            between = x.poison(0, i, one[i] ^ other[i]) || between;
        }
        Check.due("10: was altered", between, true);
        Check.due("10: sound by its sum", x.sound(0), true);
        Check.due("10: has the altered bytes", Check.has(x, 0, other), true);
        Check.due("10: keeps its digest", x.digest(0), Check.digest(one));
        Check.due("4: is the blob of the altered bytes", Check.put(x, other), 0);
        Check.due("4: but not of those it was put with", Check.put(x, one), 1);
    }

    /** Another row of six bytes with the same sum: three bytes forwards from 0 meet three backwards from the sum. */
    private static int[] sameSum(int[] row) {
        java.util.HashMap<Integer, Integer> forwards = new java.util.HashMap<>();
        for (int v = 1; v < 1 << 22; v++) {
            forwards.put(Check.sum(v & 255, v >> 8 & 255, v >> 16 & 255), v);
        }
        int inverse = 0x85EBCA77;
        for (int k = 0; k < 5; k++) {
            inverse *= 2 - 0x85EBCA77 * inverse;
        }
        int due = Check.sum(row);
        for (int v = 0; v < 1 << 22; v++) {
            int s = due;
            for (int k = 2; k >= 0; k--) {
                s = Integer.rotateRight(s * inverse, 5) ^ (v >> (8 * k) & 255);
            }
            Integer head = forwards.get(s);
            if (head != null) {
                return new int[] {head & 255, head >> 8 & 255, head >> 16 & 255, v & 255, v >> 8 & 255, v >> 16 & 255};
            }
        }
        return row;
    }

    private static void mirrorCopies() {
        ContentStore x = new ContentStore(200);
        Check.put(x, 1, 2, 3);
        Check.due("11: mirror", x.mirror(0), true);
        x.poison(0, 0, 8);
        Check.due("11: the copy is as it was", x.repair(0), 1);
        Check.due("11: bytes", Check.has(x, 0, 1, 2, 3), true);
        x.poison(0, 0, 8);
        Check.due("11: mirror of one that isn't sound", x.mirror(0), true);
        Check.due("11: in place of the one before", x.repair(0), -2);
        x.poison(0, 0, 8);
        Check.due("11: sound again", x.sound(0), true);
        x.poison(0, 1, 8);
        Check.due("11: the copy is still the wrong one", x.repair(0), -2);
        x.poison(0, 1, 8);
        Check.due("11: mirror anew", x.mirror(0), true);
        x.poison(0, 2, 8);
        Check.due("11: the right copy", x.repair(0), 1);
        Check.due("11: bytes again", Check.has(x, 0, 1, 2, 3), true);
        Check.put(x);
        Check.due("11: mirror of no bytes", x.mirror(1), true);
        Check.due("11: a copy takes no room", x.count(1), 3);
    }

    private static void repairAnswers() {
        ContentStore x = new ContentStore(200);
        Check.put(x, 1, 2, 3);
        Check.put(x, 1, 2, 3, 4);
        Check.due("12: sound, no copy", x.repair(0), 0);
        Check.due("12: none such", x.repair(2), -1);
        x.mirror(1);
        x.poison(0, 0, 1);
        Check.due("12: no copy of it", x.repair(0), -2);
        x.poison(1, 3, 255);
        Check.due("12: repaired", x.repair(1), 1);
        Check.due("12: sound then", x.repair(1), 0);
        Check.due("12: bytes", Check.has(x, 1, 1, 2, 3, 4), true);
        Check.due("12: what it had is gone", x.count(0), 2);
    }

    private static void repairOrder() {
        ContentStore x = new ContentStore(3);
        Check.put(x, 1, 2, 3);
        x.poison(0, 0, 1);
        Check.due("12: no copy comes before no room", x.repair(0), -2);
        x.mirror(0);
        Check.due("12: nor a wrong copy", x.repair(0), -2);
    }

    private static void repairNeedsRoom() {
        ContentStore x = new ContentStore(35);
        int[] a = Check.join(Check.row(16, 1), Check.row(4, 2));
        Check.put(x, a);
        x.mirror(0);
        x.poison(0, 0, 1);
        Check.due("12: no room beside what it has", x.repair(0), -3);
        Check.due("12: nothing is done", x.count(1), 20);
        Check.due("12: nor is it sound", x.sound(0), false);
        x.poison(0, 0, 1);
        Check.due("12: back by hand", Check.has(x, 0, a), true);
        x.poison(0, 19, 1);
        Check.due("12: room for four", x.repair(0), 1);
        Check.due("12: bytes", Check.has(x, 0, a), true);
        Check.due("12: bytes kept", x.count(1), 20);
        ContentStore y = new ContentStore(36);
        Check.put(y, a);
        y.mirror(0);
        y.poison(0, 0, 1);
        Check.due("12: just room", y.repair(0), 1);
        Check.due("12: bytes kept", y.count(1), 20);
        Check.due("12: parts kept", y.count(0), 2);
    }

    private static void repairMakesPartOnce() {
        ContentStore x = new ContentStore(32);
        Check.put(x, Check.row(96, 1));
        x.mirror(0);
        x.poison(0, 50, 3);
        Check.due("12: one part six times", x.repair(0), 1);
        Check.due("12: parts", x.count(0), 1);
        Check.due("12: bytes", Check.has(x, 0, Check.row(96, 1)), true);
        Check.due("19: each blob once", x.count(3), 1);
    }

    private static void repairKeepsRightParts() {
        ContentStore x = new ContentStore(200);
        int[] a = Check.row(16, 1);
        int[] b = Check.row(16, 2);
        Check.put(x, a);
        x.poison(0, 0, 1);
        Check.put(x, Check.join(a, b));
        x.poison(0, 0, 1);
        x.mirror(1);
        Check.due("12: two parts alike", x.count(0), 3);
        x.poison(1, 16, 1);
        Check.due("12: repair", x.repair(1), 1);
        Check.due("12: a right part stays, though another was made before", x.count(4), 1);
        Check.due("12: so there are as many", x.count(0), 3);
    }

    private static void repairFindsPartMadeFirst() {
        ContentStore x = new ContentStore(200);
        int[] a = Check.row(16, 1);
        int[] ab = Check.join(a, Check.row(1, 2));
        Check.put(x, a);
        x.poison(0, 0, 1);
        Check.put(x, a);
        x.poison(1, 0, 1);
        Check.put(x, ab);
        x.mirror(2);
        x.poison(2, 0, 4);
        x.poison(0, 0, 1);
        x.poison(1, 0, 1);
        Check.due("12: three parts of sixteen", x.count(0), 4);
        Check.due("12: repair", x.repair(2), 1);
        Check.due("12: the one made first is found", x.count(3), 2);
        Check.due("12: and not the second", x.count(4), 1);
        Check.due("12: what it had is left", x.count(0), 3);
        Check.due("12: no room is needed", x.count(1), 33);
    }

    /** The part that stands wrongly at the first place is by now what the second should be. */
    private static void repairFindsOwnOtherPart() {
        ContentStore x = new ContentStore(48);
        int[] ab = Check.join(Check.row(16, 1), Check.row(16, 3));
        Check.put(x, ab);
        x.mirror(0);
        for (int i = 0; i < 16; i++) {
            x.poison(0, i, 2);
        }
        x.poison(0, 16, 8);
        Check.due("12: repair", x.repair(0), 1);
        Check.due("12: bytes", Check.has(x, 0, ab), true);
        Check.due("12: parts", x.count(0), 2);
        Check.due("12: bytes kept", x.count(1), 32);
        x.poison(0, 31, 1);
        Check.due("12: only the second is altered", x.repair(0), 1);
        Check.due("12: bytes again", Check.has(x, 0, ab), true);
    }
}
