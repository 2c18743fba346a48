/** The bounds that the document names for promises 16 to 18. */
public final class PackBoundsTest {
    private static final int[] FAR = {-1, -2, Integer.MIN_VALUE, Integer.MAX_VALUE};

    public static void main(String[] args) {
        packNoSuchBlob();
        packTwelve();
        packTwelveThoughEmptied();
        packRefusedLeavesBlobs();
        packOfSixty();
        packAnyThatIsThere();
        cutNoSuchPack();
        cutKeepBelow0();
        cutTo0();
        cutAtEachEnd();
        cutBlobsWithoutBytes();
        cutOnlyBlobsWithoutBytes();
        cutAgain();
        cutEmptied();
        cutByLengthsAsTheyArePut();
        cutTheLongest();
        cutOtherPacksStay();
        cutTakesPartsAndRoom();
        packOfNone();
        packOfGone();
        packOfTheLast();
        Check.finish();
    }

    private static ContentStore withBlobs(int blobs) {
        ContentStore x = new ContentStore(2000);
        for (int blob = 0; blob < blobs; blob++) {
            Check.put(x, blob, 9);
        }
        return x;
    }

    private static ContentStore withPacks(int packs) {
        ContentStore x = new ContentStore(2000);
        for (int pack = 0; pack < packs; pack++) {
            Check.put(x, pack, 9);
            Check.due("pack " + pack, x.pack(), pack);
        }
        return x;
    }

    private static void packNoSuchBlob() {
        Check.promise(16, "NONE if there is no such BLOB");
        ContentStore x = new ContentStore(2000);
        Check.due("before any blob", x.pack(), -1);
        x.begin(1, 0L);
        Check.due("an open put is none", x.pack(), -1);
        Check.put(x, 1);
        x.sweep();
        Check.due("a gone one is none", x.pack(), -1);
        Check.put(x, 2);
        Check.due("one, and none refused has a number", x.pack(), 0);
        Check.due("it is in a pack", x.pack(), -1);
        x.cut(0, 0);
        Check.due("a lost one is none", x.pack(), -1);
        Check.put(x, 3);
        Check.due("the next", x.pack(), 1);
    }

    private static void packTwelve() {
        Check.promise(16, "a PACK, at most 12, numbered from 0: NONE if there are 12");
        ContentStore x = withPacks(11);
        Check.put(x, 11, 9);
        Check.due("the 12th", x.pack(), 11);
        Check.due("the 12th has it", x.packOf(11), 11);
        Check.put(x, 12, 9);
        Check.due("a 13th", x.pack(), -1);
        Check.due("a 13th, again", x.pack(), -1);
    }

    private static void packTwelveThoughEmptied() {
        Check.promise(16, "NONE if there are 12, though cut to nothing");
        ContentStore x = withPacks(12);
        for (int pack = 0; pack < 12; pack++) {
            Check.due("cut to nothing", x.cut(pack, 0), 1);
        }
        Check.put(x, 77);
        Check.due("a 13th", x.pack(), -1);
    }

    private static void packRefusedLeavesBlobs() {
        Check.promise(16, "NONE if there are 12: the BLOBS come into none");
        ContentStore x = withPacks(12);
        Check.put(x, 77);
        x.pack();
        Check.due("in none", x.packOf(12), -1);
        Check.due("there is no 13th to be cut", x.cut(12, 0), -1);
        Check.due("so it goes with a sweep", x.sweep(), 1);
        Check.due("the 12 are as before", x.count(2), 12);
    }

    private static void packOfSixty() {
        Check.promise(16, "all BLOBS that are there and in no PACK come into a new one, by numbers");
        ContentStore x = withBlobs(60);
        Check.due("pack", x.pack(), 0);
        for (int blob = 0; blob < 60; blob++) {
            Check.due("blob " + blob, x.packOf(blob), 0);
        }
        for (int blob = 59; blob >= 0; blob--) {
            Check.due("the last by number is lost first", x.cut(0, 2 * blob + 1), 1);
            Check.due("blob " + blob, x.there(blob), false);
        }
        Check.due("none is left", x.count(2), 0);
    }

    private static void packAnyThatIsThere() {
        Check.promise(16, "all BLOBS that are there: without bytes, not SOUND, referred to");
        ContentStore x = withBlobs(3);
        x.refer(3, 1);
        x.refer(4, 2);
        x.sweep();
        Check.put(x);
        x.poison(1, 0, 1);
        Check.due("pack", x.pack(), 0);
        Check.due("a gone one is in none", x.packOf(0), -1);
        Check.due("one that isn't sound", x.packOf(1), 0);
        Check.due("one that is referred to", x.packOf(2), 0);
        Check.due("one without bytes", x.packOf(3), 0);
        Check.due("the action refers to it still", x.referred(4), 2);
        Check.due("a gone one takes no bytes of the pack", x.cut(0, 4), 0);
    }

    private static void cutNoSuchPack() {
        Check.promise(17, "NONE if there is no such PACK");
        Check.due("before any pack", new ContentStore(9).cut(0, 0), -1);
        ContentStore x = withPacks(2);
        for (int pack : FAR) {
            Check.due("pack " + pack, x.cut(pack, 0), -1);
        }
        Check.due("pack 2", x.cut(2, 0), -1);
        Check.due("pack 11", x.cut(11, 0), -1);
        Check.due("pack 12", x.cut(12, 0), -1);
        Check.due("nothing is lost", x.count(2), 2);
        Check.due("the last", x.cut(1, 0), 1);
        Check.due("the first", x.cut(0, 0), 1);
        ContentStore y = withPacks(12);
        Check.due("pack 12 of 12", y.cut(12, 0), -1);
        Check.due("pack 11 of 12", y.cut(11, 0), 1);
    }

    private static void cutKeepBelow0() {
        Check.promise(17, "NONE if keep is below 0");
        ContentStore x = withPacks(1);
        x.refer(0, 0);
        Check.due("keep - 1", x.cut(0, -1), -1);
        Check.due("the least keep", x.cut(0, Integer.MIN_VALUE), -1);
        Check.due("nothing is lost", x.there(0), true);
        Check.due("nor referred to no longer", x.referred(0), 0);
        Check.due("keep 0", x.cut(0, 0), 1);
    }

    private static void cutTo0() {
        Check.promise(17, "CUTTING it to so many bytes: to none");
        ContentStore x = withBlobs(60);
        for (int action = 0; action < 20; action++) {
            x.refer(action, 40 + action);
        }
        x.pack();
        Check.due("all are lost", x.cut(0, 0), 60);
        Check.due("blobs", x.count(2), 0);
        Check.due("parts", x.count(0), 0);
        Check.due("bytes", x.count(1), 0);
        for (int action = 0; action < 20; action++) {
            Check.due("action " + action, x.referred(action), -1);
        }
    }

    private static void cutAtEachEnd() {
        Check.promise(17, "BLOBS whose end lies beyond that are LOST");
        int[] due = {3, 2, 2, 2, 2, 1, 1, 1, 0, 0};
        int[] keeps = {0, 1, 2, 3, 4, 5, 6, 20, 21, 22};
        for (int k = 0; k < keeps.length; k++) {
            ContentStore x = new ContentStore(100);
            Check.put(x, 1);
            Check.put(x, 1, 2, 3, 4);
            Check.put(x, Check.row(16, 5));
            x.pack();
            Check.due("cut to " + keeps[k], x.cut(0, keeps[k]), due[k]);
            for (int blob = 0; blob < 3; blob++) {
                Check.due("blob " + blob + ", cut to " + keeps[k], x.there(blob), blob < 3 - due[k]);
            }
        }
        ContentStore x = withPacks(1);
        Check.due("cut to the greatest", x.cut(0, Integer.MAX_VALUE), 0);
        Check.due("it is there", x.there(0), true);
    }

    private static void cutBlobsWithoutBytes() {
        Check.promise(17, "those without bytes at the very end stay");
        // One without bytes is always sound, so no second is made beside it: a pack has one at the most.
        int[] keeps = {0, 1, 2, 3, 4};
        int[] dueFirst = {1, 1, 0, 0, 0};
        int[] dueLast = {2, 2, 0, 0, 0};
        int[] dueMiddle = {3, 3, 1, 1, 0};
        for (int k = 0; k < keeps.length; k++) {
            ContentStore x = new ContentStore(100);
            Check.put(x);
            Check.put(x, 1, 1);
            x.pack();
            Check.due("before all, cut to " + keeps[k], x.cut(0, keeps[k]), dueFirst[k]);
            Check.due("it stays", x.there(0), true);
            ContentStore y = new ContentStore(100);
            Check.put(y, 1, 1);
            Check.put(y);
            y.refer(0, 1);
            y.pack();
            Check.due("behind all, cut to " + keeps[k], y.cut(0, keeps[k]), dueLast[k]);
            Check.due("it stays if its end is kept", y.there(1), keeps[k] >= 2);
            Check.due("and is referred to", y.referred(0), keeps[k] >= 2 ? 1 : -1);
            ContentStore z = new ContentStore(100);
            Check.put(z, 1, 1);
            Check.put(z);
            Check.put(z, 2, 2);
            z.pack();
            Check.due("between, cut to " + keeps[k], z.cut(0, keeps[k]), dueMiddle[k]);
            Check.due("it stays if its end is kept", z.there(1), keeps[k] >= 2);
        }
    }

    private static void cutOnlyBlobsWithoutBytes() {
        Check.promise(17, "those without bytes at the very end stay: a PACK without bytes");
        ContentStore x = new ContentStore(0);
        Check.put(x);
        Check.due("pack", x.pack(), 0);
        Check.due("cut to 0", x.cut(0, 0), 0);
        Check.due("it is there", x.there(0), true);
        Check.due("in its pack", x.packOf(0), 0);
        Check.due("cut to - 1", x.cut(0, -1), -1);
        Check.due("it is there still", x.there(0), true);
    }

    private static void cutAgain() {
        Check.promise(17, "CUTTING what is left");
        ContentStore x = withBlobs(4);
        x.pack();
        Check.due("to 5", x.cut(0, 5), 2);
        Check.due("to 5 again", x.cut(0, 5), 0);
        Check.due("to more again", x.cut(0, 8), 0);
        Check.due("to 4", x.cut(0, 4), 0);
        Check.due("to 3", x.cut(0, 3), 1);
        Check.due("to 2", x.cut(0, 2), 0);
        Check.due("to 1", x.cut(0, 1), 1);
    }

    private static void cutEmptied() {
        Check.promise(17, "how many BLOBS are LOST: a PACK that has none any more");
        ContentStore x = withPacks(1);
        x.cut(0, 0);
        Check.due("to 0", x.cut(0, 0), 0);
        Check.due("to the greatest", x.cut(0, Integer.MAX_VALUE), 0);
        Check.due("to - 1", x.cut(0, -1), -1);
        Check.put(x, 3);
        Check.due("what is put behind it isn't in it", x.cut(0, 0), 0);
        Check.due("and is there", x.there(1), true);
    }

    private static void cutByLengthsAsTheyArePut() {
        Check.promise(17, "one behind the other by their LENGTHS, shared PARTS or not");
        ContentStore x = new ContentStore(16);
        Check.put(x, Check.row(16, 1));
        Check.put(x, Check.row(32, 1));
        Check.put(x, Check.row(96, 1));
        x.poison(0, 0, 4);
        x.pack();
        Check.due("at its end", x.cut(0, 144), 0);
        Check.due("one before its end", x.cut(0, 143), 1);
        Check.due("at the second's end", x.cut(0, 48), 0);
        Check.due("one before that", x.cut(0, 47), 1);
        Check.due("the part is kept", x.count(0), 1);
        Check.due("at the first's end", x.cut(0, 16), 0);
        Check.due("one before that", x.cut(0, 15), 1);
        Check.due("the part is gone", x.count(0), 0);
    }

    /** 20 blobs of 96 bytes: the put of each takes fourteen calls. */
    private static void cutTheLongest() {
        Check.promise(17, "CUTTING the longest at its very end");
        ContentStore x = new ContentStore(2000);
        for (int blob = 0; blob < 20; blob++) {
            Check.put(x, Check.unshared(96, blob));
        }
        x.pack();
        Check.due("at its end", x.cut(0, 1920), 0);
        Check.due("one before", x.cut(0, 1919), 1);
        Check.due("one byte is kept", x.cut(0, 1), 19);
    }

    private static void cutOtherPacksStay() {
        Check.promise(17, "CUTTING a PACK, and no other");
        ContentStore x = withPacks(3);
        Check.put(x, 77);
        x.refer(0, 0);
        x.refer(1, 1);
        x.refer(2, 2);
        x.refer(3, 3);
        Check.due("the second", x.cut(1, 1), 1);
        boolean[] there = {true, false, true, true};
        for (int blob = 0; blob < 4; blob++) {
            Check.due("blob " + blob, x.there(blob), there[blob]);
            Check.due("action " + blob, x.referred(blob), there[blob] ? blob : -1);
        }
        Check.due("the third begins at its own first byte", x.cut(2, 2), 0);
    }

    private static void cutTakesPartsAndRoom() {
        Check.promise(17, "LOST: they go, and their PARTS if no BLOB has them");
        ContentStore x = new ContentStore(32);
        Check.put(x, Check.unshared(16, 1));
        Check.put(x, Check.unshared(32, 1));
        x.pack();
        Check.due("full", Check.put(x, 9), -3);
        Check.due("cut", x.cut(0, 47), 1);
        Check.due("the shared part is kept", x.count(0), 1);
        Check.due("17 have no room", Check.put(x, Check.unshared(17, 2)), -3);
        Check.due("16 have", Check.put(x, Check.unshared(16, 2)), 2);
    }

    private static void packOfNone() {
        Check.promise(18, "NONE if none has, or there is none such");
        ContentStore x = withPacks(2);
        Check.put(x, 77);
        Check.due("the first", x.packOf(0), 0);
        Check.due("the second", x.packOf(1), 1);
        Check.due("in none", x.packOf(2), -1);
        for (int blob : FAR) {
            Check.due("blob " + blob, x.packOf(blob), -1);
        }
        Check.due("blob 3", x.packOf(3), -1);
        Check.due("blob 59", x.packOf(59), -1);
        Check.due("blob 60", x.packOf(60), -1);
        Check.due("before any blob", new ContentStore(9).packOf(0), -1);
    }

    private static void packOfGone() {
        Check.promise(18, "NONE if there is none such: a gone one");
        ContentStore x = withBlobs(2);
        x.pack();
        x.cut(0, 2);
        Check.due("a lost one", x.packOf(1), -1);
        Check.due("one that is left", x.packOf(0), 0);
        Check.put(x, 77);
        x.sweep();
        Check.due("a swept one", x.packOf(2), -1);
        Check.due("put again, as a new one", Check.put(x, 1, 9), 3);
        Check.due("in no pack", x.packOf(3), -1);
    }

    private static void packOfTheLast() {
        Check.promise(18, "the PACK that has a BLOB: of 12");
        ContentStore x = withPacks(12);
        for (int blob = 0; blob < 12; blob++) {
            Check.due("blob " + blob, x.packOf(blob), blob);
        }
    }
}
