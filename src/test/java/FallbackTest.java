/** Promise 4: fallback. */
public final class FallbackTest {
    private static final Checks CHECKS = new Checks();
    private static final int GREATEST_ROUND_OF_2 = Integer.MAX_VALUE - 13;

    public static void main(String[] args) {
        firstAndSecondRound();
        wrongIds();
        outsiders();
        crashedMember();
        noSlotIsFree();
        oneSlotIsFree();
        promisedIsGreater();
        ownRoundIsGreater();
        bothAreEqual();
        everyRoundIsDividedDown();
        collectsAnewWhileCollecting();
        collectsAnewAfterTheAccept();
        collectsAnewWhenIdle();
        nothingElseChanges();
        roundsWrapAround();
        CHECKS.end();
    }

    /** "Do BROADCAST(p, PREPARE, crnd(p), 0, 0).", "promised(p) is not changed by this call." */
    private static void firstAndSecondRound() {
        for (int p = 0; p < 16; p++) {
            CutDetectMember c = new CutDetectMember(16, 2, 2, 1);
            CHECKS.due("fallback(" + p + ")", c.fallback(p), true);
            CHECKS.rounds("first round", c, p, 0, -1, 0, 16 + p, 1, 0, 0, 0);
            CHECKS.message("prepare", c, 0, CutDetectMember.PREPARE, p, 0, 16 + p, 0, 0, 0xFFFF);
            CHECKS.due("fallback(" + p + ") again", c.fallback(p), true);
            CHECKS.rounds("second round", c, p, 0, -1, 0, 32 + p, 1, 0, 0, 0);
            CHECKS.message("second prepare", c, 1, CutDetectMember.PREPARE, p, 0, 32 + p, 0, 0, 0xFFFF);
            CHECKS.due("two messages", Drive.usedSlots(c), 2);
        }
    }

    /** "p is not in 0..15" */
    private static void wrongIds() {
        CutDetectMember c = new CutDetectMember(16, 2, 2, 1);
        for (int wrong : Checks.WRONG_IDS) {
            CHECKS.refused("fallback(" + wrong + ")", c, () -> c.fallback(wrong));
        }
    }

    /** "status(p) != MEMBER": never a member, and no longer one. */
    private static void outsiders() {
        CutDetectMember c = new CutDetectMember(5, 2, 1, 1);
        Drive.decideFast(c, 0, 4);
        CHECKS.due("4 does not know yet that it is out", c.fallback(4), true);
        Drive.give(c, CutDetectMember.WELCOME, 0, 4);
        Drive.dropAll(c);
        for (int p = 4; p < 16; p++) {
            int outsider = p;
            CHECKS.refused("fallback(" + p + ") of an outsider", c, () -> c.fallback(outsider));
        }
    }

    /** "status(p) != MEMBER" */
    private static void crashedMember() {
        CutDetectMember c = new CutDetectMember(5, 2, 2, 1);
        Drive.must(c.fallback(2), "fallback(2)");
        Drive.must(c.crash(2), "crash(2)");
        CHECKS.refused("fallback(2) of a crashed one", c, () -> c.fallback(2));
    }

    /** "no slot is free": the round, the phase and the promises that p has stay as they were. */
    private static void noSlotIsFree() {
        CutDetectMember c = new CutDetectMember(5, 2, 1, 1);
        Drive.castVotes(c, 4, 0);
        Drive.acceptSent(c, 0, 0, 1, 2);
        Drive.fillPool(c, 3);
        CHECKS.rounds("accept sent", c, 0, 16, 0, 16, 16, 2, 0, 0, 3);
        CHECKS.refused("fallback(0) with a full pool", c, () -> c.fallback(0));
        CHECKS.refused("fallback(1) with a full pool", c, () -> c.fallback(1));
        Drive.must(c.drop(20, 0) && c.drop(20, 4), "drop");
        CHECKS.refused("fallback(0) with a slot that some wait for", c, () -> c.fallback(0));
    }

    /** "no slot is free", missed by one: the least, a middle and the last slot. */
    private static void oneSlotIsFree() {
        for (int slot : new int[] {0, 13, 31}) {
            CutDetectMember c = new CutDetectMember(5, 2, 2, 1);
            Drive.fillPool(c, 0);
            Drive.dropSlot(c, slot);
            CHECKS.due("fallback(1) with one free slot", c.fallback(1), true);
            CHECKS.message("in that slot", c, slot, CutDetectMember.PREPARE, 1, 0, 17, 0, 0, 31);
            CHECKS.refused("fallback(1) with a full pool again", c, () -> c.fallback(1));
        }
    }

    /** "Let b be the greater of promised(p) and crnd(p)." */
    private static void promisedIsGreater() {
        CutDetectMember c = new CutDetectMember(5, 2, 2, 1);
        Drive.must(c.fallback(1), "fallback(1)");
        for (int i = 0; i < 3; i++) {
            Drive.must(c.fallback(4), "fallback(4)");
        }
        Drive.must(c.deliver(3, 1), "deliver the third prepare of 4");
        CHECKS.rounds("promised", c, 1, 52, -1, 0, 17, 1, 0, 0, 0);
        CHECKS.due("fallback(1)", c.fallback(1), true);
        CHECKS.rounds("above what it promised", c, 1, 52, -1, 0, 65, 1, 0, 0, 0);
    }

    private static void ownRoundIsGreater() {
        CutDetectMember c = new CutDetectMember(5, 2, 2, 1);
        Drive.must(c.fallback(4), "fallback(4)");
        Drive.must(c.deliver(0, 1), "deliver the prepare of 4");
        Drive.must(c.fallback(1) && c.fallback(1), "fallback(1)");
        CHECKS.rounds("promised", c, 1, 20, -1, 0, 49, 1, 0, 0, 0);
        CHECKS.due("fallback(1)", c.fallback(1), true);
        CHECKS.rounds("above its own round", c, 1, 20, -1, 0, 65, 1, 0, 0, 0);
    }

    private static void bothAreEqual() {
        CutDetectMember c = new CutDetectMember(5, 2, 2, 1);
        Drive.must(c.fallback(3), "fallback(3)");
        Drive.must(c.deliver(0, 3), "deliver its own prepare");
        CHECKS.rounds("promised to itself", c, 3, 19, -1, 0, 19, 1, 0, 0, 0);
        CHECKS.due("fallback(3)", c.fallback(3), true);
        CHECKS.rounds("above both", c, 3, 19, -1, 0, 35, 1, 0, 0, 0);
    }

    /** "Set crnd(p) = (b/16+1)*16+p, using int division and int arithmetic.": b from 16 to 47. */
    private static void everyRoundIsDividedDown() {
        for (int q = 0; q < 16; q++) {
            for (int p = 0; p < 16; p++) {
                CutDetectMember c = new CutDetectMember(16, 2, 2, 1);
                Drive.must(c.fallback(q), "fallback(" + q + ")");
                Drive.must(c.deliver(0, p), "deliver the prepare");
                Drive.dropSlot(c, 0);
                Drive.must(c.fallback(p), "fallback(" + p + ")");
                String what = "crnd(" + p + ") after ";
                CHECKS.due(what + (16 + q), c.paxos(p, CutDetectMember.P_CRND), 32 + p);
                int third = (p + 1) % 16;
                Drive.give(c, CutDetectMember.PREPARE, p, third);
                Drive.must(c.fallback(third), "fallback(" + third + ")");
                what = "crnd(" + third + ") after ";
                CHECKS.due(what + (32 + p), c.paxos(third, CutDetectMember.P_CRND), 48 + third);
            }
        }
    }

    /** "Set phase(p) = 1 and prom(p) = 0." */
    private static void collectsAnewWhileCollecting() {
        CutDetectMember c = new CutDetectMember(5, 2, 1, 1);
        Drive.prepared(c, 0, 0, 1, 2, 3, 4);
        Drive.promisesTo(c, 0, 0, 1);
        CHECKS.rounds("two promises", c, 0, 16, -1, 0, 16, 1, 0, 0, 2);
        CHECKS.due("fallback(0)", c.fallback(0), true);
        CHECKS.rounds("none for the new round", c, 0, 16, -1, 0, 32, 1, 0, 0, 0);
        int old = Drive.find(c, CutDetectMember.PROMISE, 2);
        CHECKS.withoutEffect("a promise of the old round", c, old, 0);
        // Who has promised the old round is counted again for the new one.
        Drive.give(c, CutDetectMember.PREPARE, 0, 0);
        Drive.promisesTo(c, 0, 0);
        CHECKS.rounds("its own promise again", c, 0, 32, -1, 0, 32, 1, 0, 0, 1);
    }

    private static void collectsAnewAfterTheAccept() {
        CutDetectMember c = new CutDetectMember(3, 2, 1, 1);
        Drive.castVotes(c, 2, 0, 1);
        Drive.acceptSent(c, 0, 0, 1);
        CHECKS.rounds("accept sent", c, 0, 16, 0, 4, 16, 2, 0, 0, 2);
        CHECKS.due("fallback(0)", c.fallback(0), true);
        CHECKS.rounds("collecting again", c, 0, 16, 0, 4, 32, 1, 0, 0, 0);
    }

    private static void collectsAnewWhenIdle() {
        CutDetectMember c = new CutDetectMember(3, 2, 1, 1);
        Drive.prepared(c, 0, 0, 1);
        Drive.promisesTo(c, 0, 0, 1);
        CHECKS.rounds("nothing to choose", c, 0, 16, -1, 0, 16, 0, 0, 0, 2);
        CHECKS.due("fallback(0)", c.fallback(0), true);
        CHECKS.rounds("collecting again", c, 0, 16, -1, 0, 32, 1, 0, 0, 0);
    }

    /** "Nothing else changes." */
    private static void nothingElseChanges() {
        CutDetectMember c = Drive.ahead(5, 4, 0, 1, 2);
        Drive.castVotes(c, 7, 0, 1, 2);
        Drive.acceptSent(c, 2, 0, 1, 2);
        Drive.give(c, CutDetectMember.ACCEPT, 2, 0, 1);
        Drive.give(c, CutDetectMember.ACCEPTED, 0, 1);
        Drive.give(c, CutDetectMember.VOTE, 2, 1);
        Drive.dropAll(c);
        CHECKS.rounds("before", c, 1, 18, 18, 128, 0, 0, 18, 1, 0);
        int[] processes = Checks.processSnapshot(c);
        CHECKS.due("fallback(1)", c.fallback(1), true);
        processes[Checks.CELLS + Checks.ROUND_CELLS + CutDetectMember.P_CRND] = 33;
        processes[Checks.CELLS + Checks.ROUND_CELLS + CutDetectMember.P_PHASE] = 1;
        CHECKS.same("nothing else changes", Checks.processSnapshot(c), processes);
        CHECKS.message("to the members of 1", c, 0, CutDetectMember.PREPARE, 1, 1, 33, 0, 0, 15);
        CHECKS.due("one message", Drive.usedSlots(c), 1);
    }

    /** "All arithmetic is Java int arithmetic, wrapping as Java does." */
    private static void roundsWrapAround() {
        CutDetectMember c = new CutDetectMember(3, 2, 2, 1);
        Drive.must(c.fallback(2) && c.deliver(0, 1), "the first round of 2");
        Drive.dropSlot(c, 0);
        CHECKS.message("a promise that waits", c, 1, CutDetectMember.PROMISE, 1, 0, 18, -1, 0, 4);
        // Slot 0 is the lowest free one in every turn.
        for (int i = 2; i < (1 << 27) - 1; i++) {
            c.fallback(2);
            c.drop(0, 0);
            c.drop(0, 1);
            c.drop(0, 2);
        }
        CHECKS.due("fallback(2)", c.fallback(2), true);
        CHECKS.rounds("the greatest round of 2", c, 2, 0, -1, 0, GREATEST_ROUND_OF_2, 1, 0, 0, 0);
        CHECKS.answered("prepare of it", c, 0, 0, CutDetectMember.PROMISE, 0, 0, GREATEST_ROUND_OF_2, -1, 0, 4);
        promisedWrapsAround(c);
        ownRoundWrapsAround(c);
    }

    private static void promisedWrapsAround(CutDetectMember c) {
        for (int i = 0; i < 2; i++) {
            CHECKS.due("fallback(0)", c.fallback(0), true);
            int least = Integer.MIN_VALUE;
            CHECKS.rounds("past the greatest int", c, 0, GREATEST_ROUND_OF_2, -1, 0, least, 1, 0, 0, 0);
            int slot = Drive.find(c, CutDetectMember.PREPARE, 0);
            CHECKS.message("prepare", c, slot, CutDetectMember.PREPARE, 0, 0, least, 0, 0, 7);
            CHECKS.withoutEffect("a round below 0", c, slot, 1);
            Drive.dropSlot(c, slot);
        }
    }

    private static void ownRoundWrapsAround(CutDetectMember c) {
        Drive.dropSlot(c, 0);
        int below = Integer.MIN_VALUE + 2;
        CHECKS.due("fallback(2)", c.fallback(2), true);
        CHECKS.rounds("past the greatest int", c, 2, 0, -1, 0, below, 1, 0, 0, 0);
        CHECKS.message("prepare", c, 0, CutDetectMember.PREPARE, 2, 0, below, 0, 0, 7);
        CHECKS.withoutEffect("a round below 0 to one that has promised none", c, 0, 2);
        CHECKS.withoutEffect("a promise of a greater round", c, Drive.find(c, CutDetectMember.PROMISE, 0), 2);
        CHECKS.due("fallback(2)", c.fallback(2), true);
        CHECKS.rounds("promised(2) is the greater now", c, 2, 0, -1, 0, 18, 1, 0, 0, 0);
        CHECKS.unanswered("a promise of the first round 18", c, 1, 2);
        CHECKS.rounds("it has the round that 2 coordinates", c, 2, 0, -1, 0, 18, 1, 0, 0, 1);
    }
}
