/** The bounds that the document names for promises 9 to 12. */
public final class RepairBoundsTest {
    private static final int[] NO_BLOBS = {2, 3, 59, 60, 61, -1, -2, Integer.MIN_VALUE, Integer.MAX_VALUE};

    public static void main(String[] args) {
        poisonPlaces();
        poisonNoSuchByte();
        poisonMasksOfNone();
        poisonLowestEightBits();
        poisonFrom0To255();
        poisonForAllBlobs();
        poisonedPartStaysOneOfItsOwn();
        soundOfNone();
        soundWithoutBytes();
        soundBySum();
        soundBySumAsItWasPut();
        mirrorOfNone();
        mirrorWithoutRoom();
        mirrorOfOneThatIsNotSound();
        mirrorInPlaceOfTheOneBefore();
        mirrorOfSixty();
        repairOfSound();
        repairOfNone();
        repairWithoutCopy();
        repairWithWrongCopy();
        repairBySumOfCopy();
        repairJustRoom();
        repairNoRoomDoesNothing();
        repairFoundNeedsNoRoom();
        repairCountsNewPartsOnce();
        repairOrderOfAnswers();
        repairLeavesRightParts();
        repairFindsTheOneMadeFirst();
        repairMakesPartsLast();
        repairLeavesWhatItHad();
        Check.finish();
    }

    /** Blob 0 of 35 bytes, blob 1 without bytes. */
    private static ContentStore twoBlobs() {
        ContentStore x = new ContentStore(100);
        Check.put(x, Check.unshared(35, 1));
        Check.put(x);
        return x;
    }

    /** Blob 0 of a part and four bytes, with a right copy; all of it is kept once, in so much room. */
    private static ContentStore mirrored(int room) {
        ContentStore x = new ContentStore(room);
        Check.due("20 bytes", Check.put(x, Check.unshared(20, 1)), 0);
        Check.due("a copy", x.mirror(0), true);
        return x;
    }

    private static void poisonPlaces() {
        Check.promise(9, "POISONING byte i of a BLOB");
        int[] lengths = {1, 15, 16, 17, 96};
        for (int length : lengths) {
            ContentStore x = new ContentStore(96);
            Check.put(x, Check.unshared(length, 1));
            for (int i = 0; i < length; i++) {
                Check.due("byte " + i + " of " + length, x.poison(0, i, 1), true);
                Check.due("isn't sound", x.sound(0), false);
                Check.due("byte " + i + " of " + length + " back", x.poison(0, i, 1), true);
                Check.due("is sound", x.sound(0), true);
            }
        }
    }

    private static void poisonNoSuchByte() {
        Check.promise(9, "false if there is none such");
        ContentStore x = twoBlobs();
        int[] none = {-1, -16, 35, 36, 47, 48, 96, Integer.MIN_VALUE, Integer.MAX_VALUE};
        for (int i : none) {
            Check.due("byte " + i + " of 35", x.poison(0, i, 1), false);
        }
        Check.due("byte 0 of none", x.poison(1, 0, 1), false);
        Check.due("byte - 1 of none", x.poison(1, -1, 1), false);
        for (int blob : NO_BLOBS) {
            Check.due("blob " + blob, x.poison(blob, 0, 1), false);
        }
        Check.due("nothing is altered", Check.has(x, 0, Check.unshared(35, 1)), true);
        x.sweep();
        Check.due("a gone one", x.poison(0, 0, 1), false);
        Check.due("before any blob", new ContentStore(9).poison(0, 0, 1), false);
    }

    private static void poisonMasksOfNone() {
        Check.promise(9, "false if the mask's lowest eight bits are 0");
        ContentStore x = twoBlobs();
        int[] masks = {0, 256, 512, 0x7FFFFF00, -256, Integer.MIN_VALUE};
        for (int mask : masks) {
            Check.due("mask " + mask, x.poison(0, 0, mask), false);
            Check.due("sound still", x.sound(0), true);
            Check.due("mask " + mask + " where no byte is", x.poison(0, 35, mask), false);
        }
    }

    private static void poisonLowestEightBits() {
        Check.promise(9, "a mask, of which the lowest eight bits count");
        int[] masks = {1, 2, 127, 128, 255, 257, 511, 0x7FFFFF80, Integer.MAX_VALUE, -1, -255, Integer.MIN_VALUE + 1};
        for (int mask : masks) {
            ContentStore x = twoBlobs();
            Check.due("mask " + mask, x.poison(0, 34, mask), true);
            Check.due("isn't sound", x.sound(0), false);
            Check.due("its lowest eight bits back", x.poison(0, 34, mask & 255), true);
            Check.due("has its bytes", Check.has(x, 0, Check.unshared(35, 1)), true);
        }
    }

    private static void poisonFrom0To255() {
        Check.promise(9, "it becomes xor a mask; BYTES are 0 .. 255");
        ContentStore x = new ContentStore(2);
        Check.put(x, 0, 255);
        x.poison(0, 0, -1);
        x.poison(0, 1, -1);
        Check.due("the altered bytes have a part", Check.put(x, 255, 0), 1);
        Check.due("it is that one", x.count(0), 1);
        Check.due("0 became 255", x.get(1, 0), 255);
        Check.due("255 became 0", x.get(1, 1), 0);
    }

    private static void poisonForAllBlobs() {
        Check.promise(9, "POISONING alters a byte of a PART, for all BLOBS that have it");
        int[] a = Check.unshared(16, 1);
        int[] b = Check.unshared(16, 2);
        ContentStore x = new ContentStore(100);
        Check.put(x, a);
        Check.put(x, Check.join(b, a));
        Check.put(x, Check.join(a, b, a));
        Check.put(x, b);
        Check.put(x, Check.unshared(15, 1));
        x.poison(2, 47, 3);
        boolean[] due = {false, false, false, true, true};
        for (int blob = 0; blob < 5; blob++) {
            Check.due("sound, blob " + blob, x.sound(blob), due[blob]);
        }
        Check.due("back by another place of it", x.poison(2, 15, 3), true);
        for (int blob = 0; blob < 5; blob++) {
            Check.due("sound again, blob " + blob, x.sound(blob), true);
        }
        x.poison(0, 0, 3);
        Check.due("back by another blob", x.poison(1, 16, 3), true);
        Check.due("sound again", x.sound(0), true);
    }

    private static void poisonedPartStaysOneOfItsOwn() {
        Check.promise(9, "a PART that is altered so stays one of its own");
        ContentStore x = new ContentStore(2);
        Check.put(x, 1);
        Check.put(x, 2);
        x.poison(0, 0, 3);
        Check.due("alike, but two", x.count(0), 2);
        Check.due("their bytes", x.count(1), 2);
        Check.due("no room is free", Check.put(x, 9), -3);
        Check.due("blobs that have the first", x.count(3), 1);
        Check.due("blobs that have the second", x.count(4), 1);
        x.poison(1, 0, 128);
        Check.due("the second alone is altered", x.poison(0, 0, 3), true);
        Check.due("the first is as it was", Check.has(x, 0, 1), true);
        Check.due("the second is not", x.sound(1), false);
    }

    private static void soundOfNone() {
        Check.promise(10, "false if there is none such");
        ContentStore x = twoBlobs();
        for (int blob : NO_BLOBS) {
            Check.due("blob " + blob, x.sound(blob), false);
        }
        Check.due("one that is there", x.sound(0), true);
        x.sweep();
        Check.due("a gone one", x.sound(0), false);
        Check.due("a gone one without bytes", x.sound(1), false);
        Check.due("before any blob", new ContentStore(9).sound(0), false);
    }

    private static void soundWithoutBytes() {
        Check.promise(10, "whether a BLOB is SOUND: one without bytes");
        ContentStore x = twoBlobs();
        x.poison(1, 0, 1);
        x.poison(0, 0, 1);
        Check.due("one without bytes always is", x.sound(1), true);
        Check.due("one with bytes isn't always", x.sound(0), false);
    }

    /** The rows with the same sum are worked out by another program. */
    private static void soundBySum() {
        Check.promise(10, "SUM, in 32 bits: SOUND if the SUM of its bytes is the one that it keeps");
        int[] rising = new int[20];
        for (int i = 0; i < 20; i++) {
            rising[i] = i + 1;
        }
        soundByOtherBytes(Check.row(6, 0), 0, 64, 157, 52, 98, 1, 1);
        soundByOtherBytes(rising, 13, 225, 31, 8, 153, 4, 0);
        soundByOtherBytes(Check.unshared(33, 255), 0, 237, 116, 5, 82, 4, 0);
        soundByOtherBytes(Check.unshared(96, 255), 90, 47, 21, 13, 34, 12, 0);
    }

    private static void soundByOtherBytes(int[] bytes, int at, int... others) {
        int[] altered = bytes.clone();
        System.arraycopy(others, 0, altered, at, others.length);
        ContentStore x = new ContentStore(300);
        Check.put(x, bytes);
        for (int i = 0; i < others.length; i++) {
            Check.due("sound while altered in part", x.sound(0), i == 0);
            x.poison(0, at + i, bytes[at + i] ^ others[i]);
        }
        Check.due("sound with other bytes of the same sum", Check.has(x, 0, altered), true);
        Check.due("there is nothing to repair", x.repair(0), 0);
        Check.due("it is the blob of these bytes", Check.put(x, altered), 0);
        Check.due("and not of those it was put with", Check.put(x, bytes), 1);
        x.poison(0, bytes.length - 1, 1);
        Check.due("one more bit tells", x.sound(0), false);
    }

    private static void soundBySumAsItWasPut() {
        Check.promise(10, "a BLOB keeps its SUM as it was put");
        ContentStore x = mirrored(100);
        x.poison(0, 0, 1);
        Check.due("altered", x.sound(0), false);
        x.repair(0);
        Check.due("repaired", x.sound(0), true);
        x.poison(0, 0, 1);
        Check.due("altered again", x.sound(0), false);
        x.mirror(0);
        Check.due("mirrored so", x.sound(0), false);
        x.pack();
        Check.due("packed so", x.sound(0), false);
        x.poison(0, 0, 1);
        Check.due("as it was put", x.sound(0), true);
    }

    private static void mirrorOfNone() {
        Check.promise(11, "false if there is none such");
        ContentStore x = twoBlobs();
        for (int blob : NO_BLOBS) {
            Check.due("blob " + blob, x.mirror(blob), false);
        }
        Check.due("one that is there", x.mirror(0), true);
        Check.due("one without bytes", x.mirror(1), true);
        x.sweep();
        Check.due("a gone one", x.mirror(0), false);
        Check.due("a gone one without bytes", x.mirror(1), false);
        Check.due("before any blob", new ContentStore(9).mirror(0), false);
    }

    private static void mirrorWithoutRoom() {
        Check.promise(11, "the ROOM is for the bytes of all PARTS, not for the MIRROR's");
        ContentStore x = mirrored(20);
        Check.due("mirrored again in a full store", x.mirror(0), true);
        Check.due("bytes", x.count(1), 20);
        Check.due("parts", x.count(0), 2);
        Check.due("a blob without room takes no copy's", Check.put(x, 9), -3);
        ContentStore y = mirrored(21);
        Check.due("a byte beside the copy", Check.put(y, 9), 1);
    }

    private static void mirrorOfOneThatIsNotSound() {
        Check.promise(11, "bytes as they were then, even if it wasn't SOUND");
        ContentStore x = new ContentStore(100);
        Check.put(x, Check.unshared(20, 1));
        x.poison(0, 19, 1);
        Check.due("it isn't sound", x.sound(0), false);
        Check.due("mirror", x.mirror(0), true);
        Check.due("its copy isn't right", x.repair(0), -2);
        x.poison(0, 19, 1);
        Check.due("sound by hand", x.sound(0), true);
        x.poison(0, 0, 1);
        Check.due("its copy is as it was", x.repair(0), -2);
    }

    private static void mirrorInPlaceOfTheOneBefore() {
        Check.promise(11, "a copy of a BLOB from now on (in place of the one before)");
        ContentStore x = mirrored(100);
        x.poison(0, 19, 1);
        Check.due("the right copy isn't altered with the blob", x.repair(0), 1);
        x.poison(0, 19, 1);
        x.mirror(0);
        Check.due("a wrong one in its place", x.repair(0), -2);
        x.poison(0, 19, 1);
        x.mirror(0);
        x.poison(0, 0, 1);
        Check.due("a right one in place of that", x.repair(0), 1);
        Check.due("its bytes", Check.has(x, 0, Check.unshared(20, 1)), true);
        x.poison(0, 3, 1);
        Check.due("a copy serves more than once", x.repair(0), 1);
        Check.due("its bytes", Check.has(x, 0, Check.unshared(20, 1)), true);
    }

    private static void mirrorOfSixty() {
        Check.promise(11, "the MIRROR has copies of BLOBS: of 60");
        ContentStore x = new ContentStore(61);
        for (int blob = 0; blob < 60; blob++) {
            Check.put(x, blob);
            Check.due("mirror of " + blob, x.mirror(blob), true);
        }
        for (int blob = 0; blob < 60; blob++) {
            x.poison(blob, 0, 128);
        }
        for (int blob = 59; blob >= 0; blob--) {
            Check.due("repair of " + blob, x.repair(blob), 1);
            Check.due("byte of " + blob, x.get(blob, 0), blob);
        }
    }

    private static void repairOfSound() {
        Check.promise(12, "0 if it is SOUND");
        ContentStore x = twoBlobs();
        Check.due("without a copy", x.repair(0), 0);
        Check.due("without bytes", x.repair(1), 0);
        x.mirror(0);
        x.mirror(1);
        Check.due("with a copy", x.repair(0), 0);
        Check.due("without bytes, with a copy", x.repair(1), 0);
        x.poison(0, 0, 1);
        x.mirror(0);
        x.poison(0, 0, 1);
        Check.due("with a wrong copy", x.repair(0), 0);
        Check.due("its bytes", Check.has(x, 0, Check.unshared(35, 1)), true);
        Check.due("parts", x.count(0), 3);
    }

    private static void repairOfNone() {
        Check.promise(12, "- 1 if there is none such");
        ContentStore x = twoBlobs();
        for (int blob : NO_BLOBS) {
            Check.due("blob " + blob, x.repair(blob), -1);
        }
        x.mirror(0);
        x.poison(0, 0, 1);
        x.sweep();
        Check.due("a gone one, though it had a copy", x.repair(0), -1);
        Check.due("a gone one without bytes", x.repair(1), -1);
        Check.due("before any blob", new ContentStore(9).repair(0), -1);
        Check.due("nothing came back", x.count(0), 0);
    }

    private static void repairWithoutCopy() {
        Check.promise(12, "- 2 if the MIRROR has no copy whose SUM is right: none at all");
        ContentStore x = mirrored(100);
        Check.put(x, Check.unshared(16, 1));
        x.poison(1, 0, 1);
        Check.due("both aren't sound", x.sound(0), false);
        Check.due("a copy of another blob, of the same part", x.repair(1), -2);
        Check.due("nothing is done", x.count(4), 2);
        Check.due("the one that has a copy", x.repair(0), 1);
        Check.due("the other has none still", x.repair(1), -2);
        Check.due("bytes of the one", Check.has(x, 0, Check.unshared(20, 1)), true);
    }

    private static void repairWithWrongCopy() {
        Check.promise(12, "- 2 if the MIRROR has no copy whose SUM is right: a wrong one");
        ContentStore x = mirrored(100);
        int[] places = {0, 15, 16, 19};
        for (int i : places) {
            x.poison(0, i, 64);
            x.mirror(0);
            Check.due("wrong at " + i, x.repair(0), -2);
            x.poison(0, i, 64);
            Check.due("as it was put", Check.has(x, 0, Check.unshared(20, 1)), true);
        }
    }

    private static void repairBySumOfCopy() {
        Check.promise(12, "the copy's bytes again, if their SUM is the one that it keeps");
        int[] bytes = {64, 157, 52, 98, 1, 1};
        ContentStore x = new ContentStore(100);
        Check.put(x, Check.row(6, 0));
        for (int i = 0; i < 6; i++) {
            x.poison(0, i, bytes[i]);
        }
        x.mirror(0);
        x.poison(0, 5, 255);
        Check.due("other bytes than it was put with, of the same sum", x.repair(0), 1);
        Check.due("it has these", Check.has(x, 0, bytes), true);
        Check.due("it keeps its digest", x.digest(0), Check.digest(Check.row(6, 0)));
    }

    private static void repairJustRoom() {
        Check.promise(12, "- 3 if there is no room for the PARTS that would be made, beside all that there are");
        repairWith(36, 35, 0);
        repairWith(24, 23, 16);
        repairWith(40, 39, 0, 16);
    }

    private static void repairWith(int justRoom, int tooLittle, int... altered) {
        ContentStore x = mirrored(justRoom);
        ContentStore y = mirrored(tooLittle);
        for (int i : altered) {
            x.poison(0, i, 1);
            y.poison(0, i, 1);
        }
        Check.due("room " + justRoom, x.repair(0), 1);
        Check.due("its bytes", Check.has(x, 0, Check.unshared(20, 1)), true);
        Check.due("parts are as many", x.count(0), 2);
        Check.due("bytes are as many", x.count(1), 20);
        Check.due("room " + tooLittle, y.repair(0), -3);
    }

    private static void repairNoRoomDoesNothing() {
        Check.promise(12, "nothing is done then");
        ContentStore x = mirrored(39);
        Check.put(x, Check.join(Check.unshared(16, 1), Check.row(3, 8)));
        x.poison(0, 0, 1);
        x.poison(0, 16, 1);
        Check.due("no room for both", x.repair(0), -3);
        Check.due("it isn't sound", x.sound(0), false);
        Check.due("parts", x.count(0), 3);
        Check.due("bytes", x.count(1), 23);
        Check.due("it shares what it shared", x.count(3), 2);
        x.poison(1, 0, 1);
        Check.due("the other is as it was", Check.has(x, 1, Check.join(Check.unshared(16, 1), Check.row(3, 8))), true);
        Check.due("it has its copy still, and room for four", x.repair(0), 1);
        Check.due("its bytes", Check.has(x, 0, Check.unshared(20, 1)), true);
        ContentStore y = mirrored(36);
        Check.put(y, 9);
        y.refer(0, 0);
        y.poison(0, 0, 1);
        Check.due("a byte too little", y.repair(0), -3);
        y.sweep();
        Check.due("the other went", y.repair(0), 1);
    }

    private static void repairFoundNeedsNoRoom() {
        Check.promise(12, "others are found anew");
        ContentStore x = mirrored(36);
        x.poison(0, 15, 1);
        Check.put(x, Check.unshared(16, 1));
        Check.due("the store is full", Check.put(x, 9), -3);
        Check.due("the part is found at another blob", x.repair(0), 1);
        Check.due("both have it", x.count(3), 2);
        Check.due("what it had is gone", x.count(1), 20);
        Check.due("its bytes", Check.has(x, 0, Check.unshared(20, 1)), true);
    }

    private static void repairCountsNewPartsOnce() {
        Check.promise(12, "PARTS that would be made: one for six places");
        int[] rooms = {31, 32};
        for (int room : rooms) {
            ContentStore x = new ContentStore(room);
            Check.put(x, Check.row(96, 4));
            x.mirror(0);
            x.poison(0, 95, 1);
            Check.due("room " + room, x.repair(0), room == 32 ? 1 : -3);
            Check.due("parts", x.count(0), 1);
            Check.due("sound", x.sound(0), room == 32);
        }
    }

    private static void repairOrderOfAnswers() {
        Check.promise(12, "SOUND, none such, no right copy, no room: in this order");
        ContentStore x = new ContentStore(20);
        Check.put(x, Check.unshared(20, 1));
        x.poison(0, 0, 1);
        Check.due("no copy, no room", x.repair(0), -2);
        x.mirror(0);
        Check.due("a wrong copy, no room", x.repair(0), -2);
        x.poison(0, 0, 1);
        Check.due("sound, a wrong copy, no room", x.repair(0), 0);
        x.mirror(0);
        x.poison(0, 0, 1);
        Check.due("a right copy, no room", x.repair(0), -3);
        x.sweep();
        Check.due("gone", x.repair(0), -1);
    }

    private static void repairLeavesRightParts() {
        Check.promise(12, "PARTS that are as they should be stay");
        int[] a = Check.unshared(16, 1);
        ContentStore x = new ContentStore(100);
        Check.put(x, a);
        x.poison(0, 0, 2);
        Check.put(x, Check.join(a, Check.row(4, 8)));
        x.mirror(1);
        x.poison(0, 0, 2);
        x.poison(1, 16, 2);
        Check.due("repair", x.repair(1), 1);
        Check.due("its first part stays, though one like it was made before", x.count(3), 1);
        Check.due("and is its own", x.count(4), 1);
        Check.put(x, Check.join(a, Check.row(3, 8)));
        Check.due("a put finds the one made first", x.count(3), 2);
        x.poison(0, 0, 2);
        Check.due("the right part is not the altered one", x.sound(1), true);
    }

    private static void repairFindsTheOneMadeFirst() {
        Check.promise(12, "found anew: of several that are alike by now the one that was made first");
        ContentStore x = new ContentStore(100);
        for (int value = 1; value <= 3; value++) {
            Check.put(x, value);
        }
        Check.put(x, Check.join(Check.row(16, 9), Check.row(1, 4)));
        x.mirror(3);
        x.poison(3, 16, 64);
        x.poison(2, 0, 3 ^ 4);
        x.poison(1, 0, 2 ^ 4);
        Check.due("repair", x.repair(3), 1);
        Check.due("not one of other bytes", x.count(3), 1);
        Check.due("the first", x.count(4), 2);
        Check.due("not the second", x.count(5), 1);
        Check.due("what it had is gone", x.count(0), 4);
    }

    private static void repairMakesPartsLast() {
        Check.promise(12, "or made: behind all that were made before");
        ContentStore x = new ContentStore(100);
        Check.put(x, 1);
        x.mirror(0);
        Check.put(x, 2);
        x.poison(0, 0, 64);
        Check.due("repair", x.repair(0), 1);
        x.poison(1, 0, 1 ^ 2);
        Check.put(x, Check.join(Check.row(16, 9), Check.row(1, 1)));
        Check.due("the one that blob 1 has is the older", x.count(4), 2);
        Check.due("the one that blob 0 has now is the younger", x.count(3), 1);
    }

    private static void repairLeavesWhatItHad() {
        Check.promise(12, "then those that it had instead are left");
        ContentStore x = mirrored(100);
        Check.put(x, Check.unshared(16, 1));
        x.mirror(1);
        x.poison(1, 0, 1);
        Check.due("repair the one", x.repair(0), 1);
        Check.due("the other has the altered part still", x.count(0), 3);
        Check.due("and alone", x.count(4), 1);
        Check.due("and isn't sound", x.sound(1), false);
        Check.due("repair the other", x.repair(1), 1);
        Check.due("it finds the one that was made", x.count(4), 2);
        Check.due("the altered part is gone", x.count(0), 2);
        Check.due("and its room", x.count(1), 20);
    }
}
