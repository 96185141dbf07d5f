/** Promise 2: observe. */
public final class ObserveTest {
    private static final Checks CHECKS = new Checks();

    public static void main(String[] args) {
        oneRing();
        severalRings();
        joins();
        wrongObserver();
        wrongSubject();
        observerIsSubject();
        observerIsOut();
        observerIsCrashed();
        noRing();
        noSlotIsFree();
        oneSlotIsFree();
        configurationAndMembersOfTheObserver();
        countsOnlyWhenDelivered();
        loneMember();
        CHECKS.end();
    }

    /** "Otherwise it does BROADCAST(o, ALERT, s, R, 0) and answers true." */
    private static void oneRing() {
        CutDetectMember c = new CutDetectMember(5, 2, 2, 1);
        CHECKS.leavesProcesses("observe(0, 4)", c, () -> c.observe(0, 4));
        CHECKS.message("removal seen on ring 0", c, 0, CutDetectMember.ALERT, 0, 0, 4, 1, 0, 31);
        CHECKS.leavesProcesses("observe(1, 4)", c, () -> c.observe(1, 4));
        CHECKS.message("removal seen on ring 1", c, 1, CutDetectMember.ALERT, 1, 0, 4, 2, 0, 31);
        CHECKS.leavesProcesses("observe(0, 4) again", c, () -> c.observe(0, 4));
        CHECKS.message("the same alert again", c, 2, CutDetectMember.ALERT, 0, 0, 4, 1, 0, 31);
        CHECKS.due("one message each", Drive.usedSlots(c), 3);
    }

    /** "Let R be the set of rings r (bit r) on which the observer of s in mem(o) is o." */
    private static void severalRings() {
        // Of three processes, 1 watches 0 on rings 0, 1 and 2, and 2 watches 0 on the other three.
        CutDetectMember c = new CutDetectMember(3, 6, 6, 1);
        CHECKS.due("observe(1, 0)", c.observe(1, 0), true);
        CHECKS.message("rings 0, 1, 2", c, 0, CutDetectMember.ALERT, 1, 0, 0, 7, 0, 7);
        CHECKS.due("observe(2, 0)", c.observe(2, 0), true);
        CHECKS.message("rings 3, 4, 5", c, 1, CutDetectMember.ALERT, 2, 0, 0, 56, 0, 7);
        CutDetectMember fewer = new CutDetectMember(3, 2, 2, 1);
        CHECKS.due("observe(1, 0) of two rings", fewer.observe(1, 0), true);
        CHECKS.message("rings 0, 1", fewer, 0, CutDetectMember.ALERT, 1, 0, 0, 3, 0, 7);
        CHECKS.refused("observe(2, 0) of two rings", fewer, () -> fewer.observe(2, 0));
    }

    /** "A subject in M is a removal and a subject outside M is a join." */
    private static void joins() {
        // On ring 0 key(5) = 1 is followed by 0 (3); on ring 1 key(5) = 13 is followed by 2 (15).
        CutDetectMember c = new CutDetectMember(5, 2, 2, 1);
        CHECKS.leavesProcesses("observe(0, 5)", c, () -> c.observe(0, 5));
        CHECKS.message("join seen on ring 0", c, 0, CutDetectMember.ALERT, 0, 0, 5, 1, 0, 31);
        CHECKS.leavesProcesses("observe(2, 5)", c, () -> c.observe(2, 5));
        CHECKS.message("join seen on ring 1", c, 1, CutDetectMember.ALERT, 2, 0, 5, 2, 0, 31);
        CHECKS.due("a subject may be crashed", c.crash(15), true);
        // On ring 0 key(15) = 14 is followed by 4 (15).
        CHECKS.leavesProcesses("observe(4, 15)", c, () -> c.observe(4, 15));
        CHECKS.message("the greatest subject", c, 2, CutDetectMember.ALERT, 4, 0, 15, 1, 0, 31);
    }

    /** "o or s is not in 0..15" */
    private static void wrongObserver() {
        CutDetectMember c = new CutDetectMember(16, 6, 6, 1);
        for (int wrong : Checks.WRONG_IDS) {
            for (int p = 0; p < 16; p++) {
                int subject = p;
                CHECKS.refused("observe(" + wrong + ", " + p + ")", c, () -> c.observe(wrong, subject));
            }
        }
    }

    /** "o or s is not in 0..15" */
    private static void wrongSubject() {
        CutDetectMember c = new CutDetectMember(16, 6, 6, 1);
        for (int wrong : Checks.WRONG_IDS) {
            for (int p = 0; p < 16; p++) {
                int observer = p;
                CHECKS.refused("observe(" + p + ", " + wrong + ")", c, () -> c.observe(observer, wrong));
            }
            CHECKS.refused("observe(" + wrong + ", " + wrong + ")", c, () -> c.observe(wrong, wrong));
        }
    }

    /** "o == s" */
    private static void observerIsSubject() {
        CutDetectMember c = new CutDetectMember(16, 6, 6, 1);
        CutDetectMember one = Drive.members(1);
        for (int p = 0; p < 16; p++) {
            int self = p;
            CHECKS.refused("observe(" + p + ", " + p + ")", c, () -> c.observe(self, self));
            CHECKS.refused("observe(" + p + ", " + p + ") with one member", one, () -> one.observe(self, self));
        }
    }

    /** "status(o) != MEMBER": never a member, and no longer one. */
    private static void observerIsOut() {
        CutDetectMember c = new CutDetectMember(5, 6, 1, 1);
        Drive.decideFast(c, 0, 4);
        Drive.give(c, CutDetectMember.WELCOME, 0, 4);
        Drive.dropAll(c);
        for (int o = 4; o < 16; o++) {
            for (int s = 0; s < 16; s++) {
                int outsider = o;
                int subject = s;
                CHECKS.refused("observe(" + o + ", " + s + ")", c, () -> c.observe(outsider, subject));
            }
        }
    }

    /** "status(o) != MEMBER" */
    private static void observerIsCrashed() {
        CutDetectMember c = new CutDetectMember(5, 2, 2, 1);
        Drive.must(c.crash(0), "crash(0)");
        CHECKS.due("0 is the observer all the same", c.observer(0, 4, 0), 0);
        CHECKS.refused("observe(0, 4) when 0 is crashed", c, () -> c.observe(0, 4));
        CHECKS.leavesProcesses("observe(1, 4) when 0 is crashed", c, () -> c.observe(1, 4));
        CHECKS.message("a crashed member is still a receiver", c, 0, CutDetectMember.ALERT, 1, 0, 4, 2, 0, 31);
    }

    /** "R == 0": a member that observes the subject on no ring, whether a removal or a join. */
    private static void noRing() {
        CutDetectMember c = new CutDetectMember(5, 2, 2, 1);
        CHECKS.refused("observe(2, 4)", c, () -> c.observe(2, 4));
        CHECKS.refused("observe(3, 4)", c, () -> c.observe(3, 4));
        CHECKS.refused("observe(1, 5)", c, () -> c.observe(1, 5));
        CHECKS.refused("observe(4, 5)", c, () -> c.observe(4, 5));
    }

    /** "no slot is free" */
    private static void noSlotIsFree() {
        CutDetectMember c = new CutDetectMember(5, 2, 2, 1);
        for (int i = 0; i < CutDetectMember.SLOTS; i++) {
            CHECKS.leavesProcesses("observe(0, 4), time " + i, c, () -> c.observe(0, 4));
        }
        CHECKS.due("the pool is full", Drive.usedSlots(c), CutDetectMember.SLOTS);
        CHECKS.refused("observe(0, 4) with a full pool", c, () -> c.observe(0, 4));
        CHECKS.refused("observe(1, 4) with a full pool", c, () -> c.observe(1, 4));
        Drive.must(c.drop(17, 0) && c.drop(17, 4), "drop");
        CHECKS.refused("observe(1, 4) with a slot that some wait for", c, () -> c.observe(1, 4));
    }

    /** "no slot is free", missed by one: the least, a middle and the last slot. */
    private static void oneSlotIsFree() {
        for (int slot : new int[] {0, 17, 31}) {
            CutDetectMember c = new CutDetectMember(5, 2, 2, 1);
            Drive.fillPool(c, 0);
            Drive.dropSlot(c, slot);
            CHECKS.leavesProcesses("observe(1, 4) with one free slot", c, () -> c.observe(1, 4));
            CHECKS.message("in the freed slot", c, slot, CutDetectMember.ALERT, 1, 0, 4, 2, 0, 31);
            CHECKS.refused("observe(1, 4) with a full pool again", c, () -> c.observe(1, 4));
        }
    }

    /** "The message has cfg = cfg(o) and dest = mem(o), which contains o." */
    private static void configurationAndMembersOfTheObserver() {
        CutDetectMember c = new CutDetectMember(5, 2, 1, 1);
        Drive.decideFast(c, 2, 0);
        Drive.dropAll(c);
        // Without 0, 1 follows 4 on both rings; 2 knows that, and 1 does not.
        CHECKS.due("membersOf(2)", c.membersOf(2), 30);
        CHECKS.leavesProcesses("observe(1, 4) by the old members", c, () -> c.observe(1, 4));
        CHECKS.message("old configuration", c, 0, CutDetectMember.ALERT, 1, 0, 4, 2, 0, 31);
        // On ring 0, 2 (9) follows 1 (6); on ring 1, 2 (15) follows 1 (10).
        CHECKS.leavesProcesses("observe(2, 1)", c, () -> c.observe(2, 1));
        CHECKS.message("new configuration", c, 1, CutDetectMember.ALERT, 2, 1, 1, 3, 0, 30);
        // 0 is now a join: on ring 0 it is 1 (6) that follows 0 (3), on ring 1 it is 4 (8) after 0 (5).
        CHECKS.refused("observe(2, 0)", c, () -> c.observe(2, 0));
    }

    /** "o's own counts change only when the alert is delivered to o." */
    private static void countsOnlyWhenDelivered() {
        CutDetectMember c = new CutDetectMember(5, 2, 1, 1);
        CHECKS.leavesProcesses("observe(0, 4)", c, () -> c.observe(0, 4));
        CHECKS.due("reportCount(0, 4) before", c.reportCount(0, 4), 0);
        CHECKS.due("proposalOf(0) before", c.proposalOf(0), -1);
        CHECKS.due("deliver(0, 1)", c.deliver(0, 1), true);
        CHECKS.due("reportCount(0, 4) when another has it", c.reportCount(0, 4), 0);
        CHECKS.due("deliver(0, 0)", c.deliver(0, 0), true);
        CHECKS.due("reportCount(0, 4) after", c.reportCount(0, 4), 1);
        CHECKS.due("proposalOf(0) after", c.proposalOf(0), 16);
    }

    private static void loneMember() {
        CutDetectMember c = Drive.members(1);
        CHECKS.leavesProcesses("observe(0, 15) by the lone member", c, () -> c.observe(0, 15));
        CHECKS.message("to itself alone", c, 0, CutDetectMember.ALERT, 0, 2, 15, 3, 0, 1);
    }
}
