/** Promise 6: drop. */
public final class DropTest {
    private static final Checks CHECKS = new Checks();

    public static void main(String[] args) {
        // "has the same refusals as deliver."
        new SlotRefusals(CHECKS, "drop", CutDetectMember::drop).all();
        takesOffOneReceiver();
        lastReceiverFreesTheSlot();
        everyKind();
        forTheCrashed();
        CHECKS.end();
    }

    /** drop(slot, p) must take p off the slot and change nothing else. */
    private static void dropped(String what, CutDetectMember c, int slot, int p) {
        int[] slots = Checks.slotsWithout(c, slot, p);
        CHECKS.leavesProcesses(what + ", drop(" + slot + ", " + p + ")", c, () -> c.drop(slot, p));
        CHECKS.same(what + " changes no slot but for the receiver", Checks.slotSnapshot(c), slots);
    }

    /** "Otherwise p is removed from the slot's dest and the call answers true." */
    private static void takesOffOneReceiver() {
        CutDetectMember c = new CutDetectMember(16, 2, 1, 1);
        Drive.must(c.fallback(0) && c.fallback(3), "two messages");
        int dest = 0xFFFF;
        for (int p : new int[] {15, 0, 7, 8, 1, 14}) {
            dest -= 1 << p;
            dropped("receiver " + p, c, 1, p);
            CHECKS.message("after " + p, c, 1, CutDetectMember.PREPARE, 3, 0, 19, 0, 0, dest);
        }
    }

    /** "If dest became 0 the slot is free." */
    private static void lastReceiverFreesTheSlot() {
        CutDetectMember c = new CutDetectMember(5, 2, 1, 1);
        Drive.must(c.observe(0, 4) && c.fallback(3), "two messages");
        for (int p : new int[] {4, 0, 3, 1}) {
            Drive.must(c.drop(0, p), "drop");
        }
        CHECKS.message("before the last", c, 0, CutDetectMember.ALERT, 0, 0, 4, 1, 0, 4);
        dropped("the last", c, 0, 2);
        CHECKS.freeSlot("after the last", c, 0);
        CHECKS.message("the other slot stays", c, 1, CutDetectMember.PREPARE, 3, 0, 19, 0, 0, 31);
        CHECKS.due("observe(1, 4)", c.observe(1, 4), true);
        CHECKS.message("the free slot is used again", c, 0, CutDetectMember.ALERT, 1, 0, 4, 2, 0, 31);
    }

    /** "Nothing else changes; in particular no process state changes." */
    private static void everyKind() {
        for (int kind = CutDetectMember.ALERT; kind <= CutDetectMember.ACCEPTED; kind++) {
            CutDetectMember c = new CutDetectMember(5, 2, 1, 1);
            Drive.castVotes(c, 4, 0, 1, 2);
            dropped("kind " + kind, c, Drive.pending(c, kind, 1, 3, 0, 1, 2), 3);
        }
        CutDetectMember c = new CutDetectMember(5, 2, 1, 1);
        Drive.decideFast(c, 0, 7);
        dropped("a welcome", c, Drive.find(c, CutDetectMember.WELCOME, 0), 7);
        CHECKS.installed("not welcomed", c, 7, 0, 31, 0);
        // One that is ahead answers old messages when it receives them, but not when it loses them.
        dropped("an old message", c, Drive.find(c, CutDetectMember.VOTE, 4), 0);
    }

    private static void forTheCrashed() {
        CutDetectMember c = new CutDetectMember(5, 2, 1, 1);
        Drive.must(c.fallback(1) && c.crash(2) && c.crash(1), "a message of a crashed process");
        dropped("for a crashed one", c, 0, 2);
        dropped("for its sender", c, 0, 1);
    }
}
