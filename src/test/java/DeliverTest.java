import java.util.Arrays;

/** Promise 5: deliver, its refusals, the slot it frees, and the answers that find a slot or none. */
public final class DeliverTest {
    private static final Checks CHECKS = new Checks();

    /** What a rule sends: the kind of the answer, and the message that brings it. */
    private enum Answer { VOTE, PROMISE, ACCEPT, ACCEPTED, WELCOME_OF_VOTES, WELCOME_OF_ACCEPTED, WELCOME_OF_OLD }

    public static void main(String[] args) {
        new SlotRefusals(CHECKS, "deliver", CutDetectMember::deliver).all();
        takesOffOneReceiver();
        lastReceiverFreesTheSlot();
        lowestFreeSlotTakesTheAnswer();
        for (Answer answer : Answer.values()) {
            freedSlotTakesTheAnswer(answer);
            answerIsLost(answer);
        }
        CHECKS.end();
    }

    /** "p is removed from dest." */
    private static void takesOffOneReceiver() {
        CutDetectMember c = new CutDetectMember(16, 2, 2, 1);
        Drive.must(c.fallback(0) && c.observe(c.observer(0, 9, 1), 9), "two messages");
        int observer = c.observer(0, 9, 1);
        int dest = 0xFFFF;
        for (int p : new int[] {15, 0, 7, 8, 1, 14, 2, 13}) {
            dest -= 1 << p;
            CHECKS.unanswered("receiver " + p, c, 1, p);
            CHECKS.message("after " + p, c, 1, CutDetectMember.ALERT, observer, 0, 9, 2, 0, dest);
        }
    }

    /** "If dest became 0 the slot is free", "all fields of a free slot read 0." */
    private static void lastReceiverFreesTheSlot() {
        CutDetectMember c = new CutDetectMember(5, 2, 2, 1);
        Drive.must(c.observe(1, 4) && c.observe(0, 4), "observe");
        for (int p : new int[] {3, 0, 4, 1}) {
            Drive.must(c.deliver(0, p), "deliver");
        }
        CHECKS.message("before the last", c, 0, CutDetectMember.ALERT, 1, 0, 4, 2, 0, 4);
        CHECKS.unanswered("the last receiver", c, 0, 2);
        CHECKS.freeSlot("after the last", c, 0);
        CHECKS.message("the other slot stays", c, 1, CutDetectMember.ALERT, 0, 0, 4, 1, 0, 31);
    }

    /** "Otherwise the lowest free slot gets kind, src = p, cfg = cfg(p), x, y, z and dest = D." */
    private static void lowestFreeSlotTakesTheAnswer() {
        CutDetectMember c = new CutDetectMember(5, 2, 1, 1);
        Drive.must(c.fallback(1), "fallback(1)");
        Drive.fillPool(c, 0);
        Drive.dropSlot(c, 21);
        Drive.dropSlot(c, 9);
        CHECKS.due("deliver(0, 2)", c.deliver(0, 2), true);
        CHECKS.message("the lower of two", c, 9, CutDetectMember.PROMISE, 2, 0, 17, -1, 0, 2);
        CHECKS.freeSlot("the higher of two", c, 21);
        Drive.dropForOthers(c, 30, 3);
        CHECKS.due("deliver(30, 3), the last receiver of a higher slot", c.deliver(30, 3), true);
        CHECKS.message("a lower slot was free", c, 21, CutDetectMember.VOTE, 3, 0, c.proposalOf(3), 0, 0, 31);
        CHECKS.freeSlot("the slot of the message", c, 30);
    }

    /** "If dest became 0 the slot is free and may take messages sent during the rest of this call." */
    private static void freedSlotTakesTheAnswer(Answer answer) {
        CutDetectMember c = pending(answer);
        CutDetectMember twin = pending(answer);
        int slot = slotOf(answer, c);
        Drive.dropForOthers(c, slot, 1);
        Drive.fillPool(c, 4);
        CHECKS.answered(answer + " in the freed slot", c, slot, 1, due(answer));
        CHECKS.message(answer + " in the freed slot", c, slot, due(answer));
        Drive.must(twin.deliver(slot, 1), "deliver with free slots");
        CHECKS.same(answer + ", state", Checks.processSnapshot(c), Checks.processSnapshot(twin));
    }

    /**
     * "Any SEND or BROADCAST made by a rule is lost if no slot is free; the state changes of that rule
     * still happen." A promise has one receiver and so frees its slot: no accept is lost.
     */
    private static void answerIsLost(Answer answer) {
        if (answer == Answer.ACCEPT) {
            return;
        }
        CutDetectMember c = pending(answer);
        CutDetectMember twin = pending(answer);
        int slot = slotOf(answer, c);
        CHECKS.due(answer + ", others wait too", Integer.bitCount(c.msg(slot, CutDetectMember.F_DEST)) > 1, true);
        Drive.fillPool(c, 4);
        int[] before = Checks.snapshotOf(c, 1);
        CHECKS.unanswered(answer + " is lost", c, slot, 1);
        CHECKS.answered(answer + " with free slots", twin, slot, 1, due(answer));
        CHECKS.same(answer + ", state", Checks.processSnapshot(c), Checks.processSnapshot(twin));
        boolean changed = !Arrays.equals(before, Checks.snapshotOf(c, 1));
        CHECKS.due(answer + ", its rule changes 1", changed, answer != Answer.WELCOME_OF_OLD);
    }

    /** A cluster of five in which process 1 answers so when it receives the message of slotOf. */
    private static CutDetectMember pending(Answer answer) {
        CutDetectMember c = new CutDetectMember(5, 2, 1, 1);
        switch (answer) {
            case VOTE -> Drive.must(c.observe(0, 4), "observe(0, 4)");
            case PROMISE -> Drive.must(c.fallback(0), "fallback(0)");
            case ACCEPT -> {
                Drive.castVotes(c, 4, 2);
                Drive.prepared(c, 1, 0, 2, 3);
                Drive.promisesTo(c, 1, 0, 2);
            }
            case ACCEPTED -> {
                Drive.castVotes(c, 4, 0);
                Drive.acceptSent(c, 0, 0, 2, 3);
            }
            case WELCOME_OF_VOTES -> {
                Drive.castVotes(c, 4, 0, 1, 2, 3);
                for (int q = 1; q < 4; q++) {
                    Drive.give(c, CutDetectMember.VOTE, q, 1);
                }
            }
            case WELCOME_OF_ACCEPTED -> {
                Drive.castVotes(c, 4, 0);
                Drive.acceptSent(c, 0, 0, 2, 3);
                Drive.give(c, CutDetectMember.ACCEPT, 0, 0, 2, 3);
                Drive.give(c, CutDetectMember.ACCEPTED, 2, 1);
                Drive.give(c, CutDetectMember.ACCEPTED, 3, 1);
            }
            default -> {
                Drive.must(c.fallback(0), "fallback(0)");
                Drive.decideFast(c, 1, 4);
                Drive.dropKind(c, CutDetectMember.WELCOME);
            }
        }
        return c;
    }

    private static int slotOf(Answer answer, CutDetectMember c) {
        return switch (answer) {
            case VOTE -> Drive.find(c, CutDetectMember.ALERT, 0);
            case PROMISE, WELCOME_OF_OLD -> Drive.find(c, CutDetectMember.PREPARE, 0);
            case ACCEPT -> Drive.find(c, CutDetectMember.PROMISE, 3);
            case ACCEPTED -> Drive.find(c, CutDetectMember.ACCEPT, 0);
            case WELCOME_OF_VOTES -> Drive.find(c, CutDetectMember.VOTE, 0);
            case WELCOME_OF_ACCEPTED -> Drive.find(c, CutDetectMember.ACCEPTED, 0);
        };
    }

    private static int[] due(Answer answer) {
        return switch (answer) {
            case VOTE -> new int[] {CutDetectMember.VOTE, 1, 0, 16, 0, 0, 31};
            case PROMISE -> new int[] {CutDetectMember.PROMISE, 1, 0, 16, -1, 0, 1};
            case ACCEPT -> new int[] {CutDetectMember.ACCEPT, 1, 0, 17, 16, 0, 31};
            case ACCEPTED -> new int[] {CutDetectMember.ACCEPTED, 1, 0, 16, 16, 0, 31};
            case WELCOME_OF_VOTES, WELCOME_OF_ACCEPTED -> new int[] {CutDetectMember.WELCOME, 1, 1, 15, 16, 0, 16};
            case WELCOME_OF_OLD -> new int[] {CutDetectMember.WELCOME, 1, 1, 15, 16, 0, 1};
        };
    }
}
