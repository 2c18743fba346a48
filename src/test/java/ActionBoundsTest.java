/** The bounds that the document names for promises 13 to 15. */
public final class ActionBoundsTest {
    private static final int[] NO_ACTIONS = {20, 21, 60, -1, -2, Integer.MIN_VALUE, Integer.MAX_VALUE};

    public static void main(String[] args) {
        referFrom0To19();
        referNoSuchAction();
        referNoSuchBlob();
        referToNone();
        referToAnyThatIsThere();
        referredAtFirst();
        referredNoSuchAction();
        referredNoLonger();
        sweepOfNothing();
        sweepOfAll();
        sweepWhatActionsReferTo();
        sweepWhatPacksHave();
        sweepWhatIsSoundOrNot();
        sweepTakesPartsAndRoom();
        Check.finish();
    }

    private static ContentStore withBlobs(int blobs) {
        ContentStore x = new ContentStore(2000);
        for (int blob = 0; blob < blobs; blob++) {
            Check.put(x, blob);
        }
        return x;
    }

    private static void allActions(ContentStore x, int due) {
        for (int action = 0; action < 20; action++) {
            Check.due("action " + action, x.referred(action), due);
        }
    }

    private static void referFrom0To19() {
        Check.promise(13, "ACTIONS 0 .. 19 may refer to a BLOB");
        ContentStore x = withBlobs(21);
        for (int action = 0; action < 20; action++) {
            Check.due("action " + action, x.refer(action, 20 - action), true);
        }
        for (int action = 0; action < 20; action++) {
            Check.due("action " + action + " refers to its own", x.referred(action), 20 - action);
        }
        for (int action = 0; action < 20; action++) {
            Check.due("all to one", x.refer(action, 0), true);
        }
        allActions(x, 0);
    }

    private static void referNoSuchAction() {
        Check.promise(13, "false if there are none such: the ACTION");
        ContentStore x = withBlobs(2);
        x.refer(0, 1);
        x.refer(19, 1);
        for (int action : NO_ACTIONS) {
            Check.due("action " + action, x.refer(action, 0), false);
            Check.due("action " + action + ", to none", x.refer(action, -1), false);
            Check.due("action " + action + ", to no such", x.refer(action, 2), false);
        }
        Check.due("the first is as before", x.referred(0), 1);
        Check.due("the last is as before", x.referred(19), 1);
        for (int action = 1; action < 19; action++) {
            Check.due("the others too", x.referred(action), -1);
        }
    }

    private static void referNoSuchBlob() {
        Check.promise(13, "false if there are none such: the BLOB");
        ContentStore x = withBlobs(3);
        x.refer(0, 2);
        x.refer(19, 1);
        x.sweep();
        int[] none = {0, 3, 4, 59, 60, 61, -2, -3, Integer.MIN_VALUE, Integer.MAX_VALUE};
        for (int blob : none) {
            Check.due("blob " + blob, x.refer(0, blob), false);
            Check.due("as before", x.referred(0), 2);
            Check.due("blob " + blob + ", of another", x.refer(5, blob), false);
            Check.due("to none, as before", x.referred(5), -1);
        }
        Check.due("the last that is there", x.refer(0, 1), true);
        Check.due("before any blob", new ContentStore(9).refer(0, 0), false);
    }

    private static void referToNone() {
        Check.promise(13, "NONE: to none any more");
        ContentStore x = withBlobs(1);
        Check.due("one that referred to none", x.refer(0, -1), true);
        x.refer(0, 0);
        x.refer(19, 0);
        Check.due("the first", x.refer(0, -1), true);
        Check.due("to none", x.referred(0), -1);
        Check.due("the last is as before", x.referred(19), 0);
        Check.due("the last", x.refer(19, -1), true);
        Check.due("to none", x.referred(19), -1);
        Check.due("before any blob", new ContentStore(9).refer(19, -1), true);
    }

    private static void referToAnyThatIsThere() {
        Check.promise(13, "an ACTION refers to a BLOB: without bytes, not SOUND, packed, the last of 60");
        ContentStore x = withBlobs(59);
        Check.put(x);
        Check.due("the last of 60, without bytes", x.refer(0, 59), true);
        Check.due("refers to it", x.referred(0), 59);
        x.poison(0, 0, 1);
        Check.due("not sound", x.refer(0, 0), true);
        Check.due("refers to it instead", x.referred(0), 0);
        x.pack();
        Check.due("packed", x.refer(0, 1), true);
        Check.due("refers to that", x.referred(0), 1);
    }

    private static void referredAtFirst() {
        Check.promise(14, "NONE if to none");
        allActions(new ContentStore(9), -1);
        allActions(withBlobs(1), -1);
    }

    private static void referredNoSuchAction() {
        Check.promise(14, "NONE if there is none such");
        ContentStore x = withBlobs(1);
        for (int action = 0; action < 20; action++) {
            x.refer(action, 0);
        }
        for (int action : NO_ACTIONS) {
            Check.due("action " + action, x.referred(action), -1);
        }
        Check.due("the first", x.referred(0), 0);
        Check.due("the last", x.referred(19), 0);
    }

    private static void referredNoLonger() {
        Check.promise(14, "ACTIONS refer to LOST BLOBS no longer");
        ContentStore x = withBlobs(3);
        for (int action = 0; action < 20; action++) {
            x.refer(action, action % 3);
        }
        x.pack();
        Check.due("cut behind the first", x.cut(0, 1), 2);
        for (int action = 0; action < 20; action++) {
            Check.due("action " + action, x.referred(action), action % 3 == 0 ? 0 : -1);
        }
        x.cut(0, 0);
        allActions(x, -1);
    }

    private static void sweepOfNothing() {
        Check.promise(15, "how many BLOBS went: none");
        Check.due("before any blob", new ContentStore(9).sweep(), 0);
        ContentStore x = withBlobs(1);
        x.refer(0, 0);
        Check.due("one is referred to", x.sweep(), 0);
        Check.due("it is there", x.there(0), true);
        x.refer(0, -1);
        Check.due("nothing refers to it", x.sweep(), 1);
        Check.due("it is gone already", x.sweep(), 0);
        x.begin(1, 0L);
        Check.due("an open put is no blob", x.sweep(), 0);
        Check.due("and is open still", x.add(1, 7L, 1), 1);
        Check.due("and has its byte", x.end(1), 1);
    }

    private static void sweepOfAll() {
        Check.promise(15, "how many BLOBS went: 60");
        ContentStore x = withBlobs(60);
        Check.due("sweep", x.sweep(), 60);
        for (int blob = 0; blob < 60; blob++) {
            Check.due("blob " + blob, x.there(blob), false);
        }
        for (int what = 0; what < 3; what++) {
            Check.due("count " + what, x.count(what), 0);
        }
    }

    private static void sweepWhatActionsReferTo() {
        Check.promise(15, "all BLOBS go that no ACTION refers to");
        ContentStore x = withBlobs(22);
        for (int action = 0; action < 20; action++) {
            x.refer(action, action + 1);
        }
        Check.due("the first and the last go", x.sweep(), 2);
        Check.due("the first", x.there(0), false);
        Check.due("the last", x.there(21), false);
        for (int blob = 1; blob < 21; blob++) {
            Check.due("blob " + blob, x.there(blob), true);
        }
        for (int action = 0; action < 20; action++) {
            Check.due("action " + action, x.referred(action), action + 1);
        }
        x.refer(0, 20);
        Check.due("the one that action 0 referred to", x.sweep(), 1);
        Check.due("it went", x.there(1), false);
        x.refer(19, -1);
        Check.due("two actions, of which one refers still", x.sweep(), 0);
    }

    private static void sweepWhatPacksHave() {
        Check.promise(15, "all BLOBS go that no PACK has");
        ContentStore x = withBlobs(2);
        x.pack();
        Check.put(x, 2);
        x.pack();
        Check.put(x, 3);
        Check.due("in no pack", x.sweep(), 1);
        for (int blob = 0; blob < 3; blob++) {
            Check.due("blob " + blob, x.there(blob), true);
        }
        Check.due("blob 3", x.there(3), false);
        x.refer(0, 0);
        x.refer(0, -1);
        Check.due("packed, and referred to no longer", x.sweep(), 0);
    }

    private static void sweepWhatIsSoundOrNot() {
        Check.promise(15, "all BLOBS go: without bytes, not SOUND, with a copy");
        ContentStore x = withBlobs(2);
        Check.put(x);
        x.poison(0, 0, 1);
        x.mirror(1);
        x.refer(0, 0);
        Check.due("one that isn't sound stays if it is referred to", x.sweep(), 2);
        Check.due("it is there", x.there(0), true);
        x.refer(0, -1);
        Check.due("and else goes", x.sweep(), 1);
    }

    private static void sweepTakesPartsAndRoom() {
        Check.promise(15, "PARTS are kept as long as a BLOB has them");
        ContentStore x = new ContentStore(32);
        Check.put(x, Check.unshared(32, 1));
        Check.put(x, Check.unshared(16, 1));
        Check.due("full", Check.put(x, 9), -3);
        x.refer(0, 1);
        x.sweep();
        Check.due("the shared part is kept", x.count(0), 1);
        Check.due("17 have no room", Check.put(x, Check.unshared(17, 2)), -3);
        Check.due("16 have", Check.put(x, Check.unshared(16, 2)), 2);
    }
}
