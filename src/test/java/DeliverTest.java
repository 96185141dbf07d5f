import java.util.Arrays;

/** Promise 5: deliver, its refusals, the slot it frees, and the rules before those by kind. */
public final class DeliverTest {
    private static final Checks CHECKS = new Checks();

    public static void main(String[] args) {
        refusals();
        takesOffOneReceiver();
        freedSlotTakesTheAnswer();
        answersAreLostWhenThePoolIsFull();
        crashedReceivesNothing();
        welcomeBringsForward();
        welcomeIsIgnoredUnlessNewer();
        outsiderHearsOnlyWelcomes();
        oldMessageIsAnsweredWithWelcome();
        ownOldMessageIsNotAnswered();
        newerMessageIsIgnored();
        onlyTheReceiverChanges();
        CHECKS.end();
    }

    private static void refusals() {
        CutDetectMember c = new CutDetectMember(5, 2, 2, 1);
        for (int slot = 0; slot < CutDetectMember.SLOTS; slot++) {
            int free = slot;
            CHECKS.refused("deliver(" + slot + ", 0) of a free slot", c, () -> c.deliver(free, 0));
        }
        Drive.must(c.observe(0, 4), "observe(0, 4)");
        for (int wrong : new int[] {-1, 32, 33, -32, Integer.MIN_VALUE, Integer.MAX_VALUE}) {
            CHECKS.refused("deliver(" + wrong + ", 0)", c, () -> c.deliver(wrong, 0));
        }
        for (int wrong : Checks.WRONG_IDS) {
            CHECKS.refused("deliver(0, " + wrong + ")", c, () -> c.deliver(0, wrong));
        }
        for (int p = 5; p < 16; p++) {
            int outsider = p;
            CHECKS.refused("deliver(0, " + p + ") to no receiver", c, () -> c.deliver(0, outsider));
        }
        CHECKS.due("deliver(0, 2)", c.deliver(0, 2), true);
        CHECKS.refused("deliver(0, 2) again", c, () -> c.deliver(0, 2));
        CHECKS.due("reportCount(2, 4)", c.reportCount(2, 4), 1);
    }

    private static void takesOffOneReceiver() {
        CutDetectMember c = new CutDetectMember(5, 2, 2, 1);
        Drive.must(c.observe(1, 4), "observe(1, 4)");
        Drive.must(c.observe(0, 4), "observe(0, 4)");
        int dest = 31;
        for (int p : new int[] {3, 0, 4, 1}) {
            CHECKS.due("deliver(0, " + p + ")", c.deliver(0, p), true);
            dest -= 1 << p;
            CHECKS.message("after " + p, c, 0, CutDetectMember.ALERT, 1, 0, 4, 2, 0, dest);
        }
        CHECKS.due("deliver(0, 2), the last", c.deliver(0, 2), true);
        CHECKS.freeSlot("after the last", c, 0);
        CHECKS.message("the other slot stays", c, 1, CutDetectMember.ALERT, 0, 0, 4, 1, 0, 31);
    }

    private static void freedSlotTakesTheAnswer() {
        CutDetectMember c = new CutDetectMember(3, 2, 1, 1);
        Drive.must(c.fallback(1), "fallback(1)");
        Drive.must(c.fallback(2), "fallback(2)");
        Drive.must(c.drop(0, 0) && c.drop(0, 1), "drop");
        CHECKS.due("deliver(0, 2), the last receiver", c.deliver(0, 2), true);
        CHECKS.message("the promise in the freed slot", c, 0, CutDetectMember.PROMISE, 2, 0, 17, -1, 0, 2);
        CHECKS.message("the other slot stays", c, 1, CutDetectMember.PREPARE, 2, 0, 18, 0, 0, 7);
        CHECKS.due("deliver(1, 0), not the last receiver", c.deliver(1, 0), true);
        CHECKS.message("the promise in the lowest free slot", c, 2, CutDetectMember.PROMISE, 0, 0, 18, -1, 0, 4);
    }

    private static void answersAreLostWhenThePoolIsFull() {
        CutDetectMember c = new CutDetectMember(3, 2, 1, 1);
        Drive.must(c.observe(c.observer(0, 2, 0), 2), "observe");
        Drive.fillPool(c, 0);
        int[] slots = Checks.slotSnapshot(c);
        CHECKS.due("deliver the alert to 1", c.deliver(0, 1), true);
        CHECKS.due("1 has voted", c.proposalOf(1), 4);
        CHECKS.due("1 accepts its vote", c.paxos(1, CutDetectMember.P_ACCRND), 0);
        CHECKS.due("1 accepts its vote", c.paxos(1, CutDetectMember.P_ACCVAL), 4);
        slots[CutDetectMember.F_DEST] = 5;
        CHECKS.due("the vote is lost", Arrays.equals(slots, Checks.slotSnapshot(c)), true);
        CHECKS.due("deliver a prepare to 2", c.deliver(1, 2), true);
        CHECKS.due("2 has promised", c.paxos(2, CutDetectMember.P_PROMISED), 16);
        slots[7 + CutDetectMember.F_DEST] = 3;
        CHECKS.due("the promise is lost", Arrays.equals(slots, Checks.slotSnapshot(c)), true);
        acceptIsLost();
        welcomeIsLost();
    }

    private static void acceptIsLost() {
        CutDetectMember c = new CutDetectMember(3, 2, 1, 1);
        Drive.castVotes(c, 2, 0, 1);
        Drive.dropAll(c);
        Drive.must(c.fallback(0), "fallback(0)");
        Drive.give(c, CutDetectMember.PREPARE, 0, 0, 1);
        Drive.give(c, CutDetectMember.PROMISE, 0, 0);
        Drive.give(c, CutDetectMember.PROMISE, 1, 0);
        Drive.fillPool(c, 1);
        int accept = Drive.find(c, CutDetectMember.ACCEPT, 0);
        CHECKS.due("deliver the accept to 2", c.deliver(accept, 2), true);
        CHECKS.due("2 has accepted", c.paxos(2, CutDetectMember.P_ACCRND), 16);
        CHECKS.due("2 has accepted", c.paxos(2, CutDetectMember.P_ACCVAL), 4);
        CHECKS.due("its accepted is lost", Drive.find(c, CutDetectMember.ACCEPTED, 2), -1);
    }

    private static void welcomeIsLost() {
        CutDetectMember c = new CutDetectMember(5, 2, 1, 1);
        int o = Drive.alert(c, 0, 4);
        Drive.give(c, CutDetectMember.ALERT, o, 0, 1, 2, 3);
        for (int q = 0; q < 3; q++) {
            Drive.give(c, CutDetectMember.VOTE, q, 1);
        }
        Drive.fillPool(c, 0);
        Drive.give(c, CutDetectMember.VOTE, 3, 1);
        CHECKS.installed("decided with a full pool", c, 1, 1, 15, 16);
        CHECKS.due("the welcome is lost", Drive.find(c, CutDetectMember.WELCOME, 1), -1);
        Drive.give(c, CutDetectMember.PREPARE, 0, 1);
        CHECKS.due("the welcome to one behind is lost", Drive.find(c, CutDetectMember.WELCOME, 1), -1);
    }

    private static void crashedReceivesNothing() {
        CutDetectMember c = new CutDetectMember(5, 2, 1, 1);
        Drive.decideFast(c, 3, 4);
        Drive.must(c.fallback(0), "fallback(0)");
        Drive.must(c.crash(3), "crash(3)");
        Drive.must(c.crash(4), "crash(4)");
        int[] before = Checks.processSnapshot(c);
        int used = Drive.usedSlots(c);
        Drive.give(c, CutDetectMember.PREPARE, 0, 3, 4);
        CHECKS.due("no answer by the crashed", Drive.usedSlots(c), used);
        Drive.give(c, CutDetectMember.WELCOME, 3, 4);
        CHECKS.due("the welcome is used up", Drive.usedSlots(c), used - 1);
        CHECKS.due("no process changed", Arrays.equals(before, Checks.processSnapshot(c)), true);
    }

    private static void welcomeBringsForward() {
        CutDetectMember c = new CutDetectMember(5, 2, 1, 1);
        Drive.decideFast(c, 0, 7);
        int welcome = Drive.find(c, CutDetectMember.WELCOME, 0);
        CHECKS.message("welcome to the joiner", c, welcome, CutDetectMember.WELCOME, 0, 1, 159, 128, 0, 128);
        CHECKS.due("7 is out", c.status(7), CutDetectMember.ST_OUT);
        CHECKS.due("deliver the welcome", c.deliver(welcome, 7), true);
        CHECKS.installed("welcomed", c, 7, 1, 159, 128);
        CHECKS.due("7 is a member", c.status(7), CutDetectMember.ST_MEMBER);
        CHECKS.freeSlot("no answer", c, welcome);

        // The removed one may be deep in a round of the old configuration: all of it is put back.
        CutDetectMember r = new CutDetectMember(5, 2, 1, 1);
        Drive.must(r.fallback(4), "fallback(4)");
        Drive.decideFast(r, 0, 4);
        Drive.give(r, CutDetectMember.PREPARE, 4, 4, 1);
        Drive.give(r, CutDetectMember.PROMISE, 4, 4);
        Drive.give(r, CutDetectMember.VOTE, 1, 4);
        CHECKS.due("4 has voted", r.proposalOf(4), 16);
        CHECKS.due("4 has a promise", r.paxos(4, CutDetectMember.P_PCOUNT), 1);
        Drive.give(r, CutDetectMember.WELCOME, 0, 4);
        CHECKS.installed("told of its removal", r, 4, 1, 15, 16);
        CHECKS.due("4 is out", r.status(4), CutDetectMember.ST_OUT);
    }

    private static void welcomeIsIgnoredUnlessNewer() {
        CutDetectMember c = new CutDetectMember(5, 2, 1, 1);
        int o = Drive.alert(c, 0, 7);
        Drive.give(c, CutDetectMember.ALERT, o, 0, 1, 2, 3);
        for (int q = 0; q < 4; q++) {
            Drive.give(c, CutDetectMember.VOTE, q, 0, 1);
        }
        Drive.give(c, CutDetectMember.WELCOME, 0, 7);
        Drive.must(c.fallback(7), "fallback(7)");
        int[] before = Checks.processSnapshot(c);
        Drive.give(c, CutDetectMember.WELCOME, 1, 7);
        CHECKS.due("a welcome to its own configuration", Arrays.equals(before, Checks.processSnapshot(c)), true);

        // 3 stays behind: 0 welcomes it to configuration 1, then to 2. The older arrives last.
        CutDetectMember b = new CutDetectMember(5, 2, 1, 1);
        Drive.castVotes(b, 4, 0, 1, 2, 3);
        for (int q = 0; q < 4; q++) {
            Drive.give(b, CutDetectMember.VOTE, q, 0, 1, 2);
        }
        Drive.dropAll(b);
        Drive.must(b.fallback(3), "fallback(3)");
        Drive.must(b.fallback(3), "fallback(3)");
        Drive.must(b.deliver(0, 0), "deliver the first prepare");
        CHECKS.message("welcome to 1", b, 2, CutDetectMember.WELCOME, 0, 1, 15, 16, 0, 8);
        Drive.castVotes(b, 5, 0, 1, 2);
        for (int q = 0; q < 3; q++) {
            Drive.give(b, CutDetectMember.VOTE, q, 0);
        }
        CHECKS.installed("second configuration", b, 0, 2, 47, 32);
        Drive.dropKind(b, CutDetectMember.VOTE);
        Drive.must(b.drop(welcomeTo(b, 5), 5), "drop the welcome of 5");
        Drive.must(b.deliver(1, 0), "deliver the second prepare");
        CHECKS.message("welcome to 2", b, 3, CutDetectMember.WELCOME, 0, 2, 47, 32, 0, 8);
        CHECKS.due("deliver the newer", b.deliver(3, 3), true);
        CHECKS.installed("3 skips a configuration", b, 3, 2, 47, 32);
        Drive.must(b.fallback(3), "fallback(3)");
        int[] then = Checks.processSnapshot(b);
        CHECKS.due("deliver the older", b.deliver(2, 3), true);
        CHECKS.due("an older welcome changes nothing", Arrays.equals(then, Checks.processSnapshot(b)), true);
    }

    private static int welcomeTo(CutDetectMember c, int p) {
        for (int slot = 0; slot < CutDetectMember.SLOTS; slot++) {
            boolean welcome = c.msg(slot, CutDetectMember.F_KIND) == CutDetectMember.WELCOME;
            if (welcome && c.msg(slot, CutDetectMember.F_DEST) == 1 << p) {
                return slot;
            }
        }
        return -1;
    }

    private static void outsiderHearsOnlyWelcomes() {
        // 4 takes part in its own removal and is out at once; every other kind passes it by then.
        CutDetectMember c = new CutDetectMember(5, 2, 1, 1);
        int o = Drive.alert(c, 0, 4);
        Drive.give(c, CutDetectMember.ALERT, o, 0, 1, 2, 3);
        Drive.must(c.fallback(0), "fallback(0)");
        for (int q = 0; q < 4; q++) {
            Drive.give(c, CutDetectMember.VOTE, q, 4);
        }
        CHECKS.installed("4 has decided its removal", c, 4, 1, 15, 16);
        CHECKS.due("4 is out", c.status(4), CutDetectMember.ST_OUT);
        CHECKS.due("4 does not welcome itself", Drive.find(c, CutDetectMember.WELCOME, 4), -1);
        int[] before = Checks.processSnapshot(c);
        int used = Drive.usedSlots(c);
        Drive.give(c, CutDetectMember.PREPARE, 0, 4);
        Drive.give(c, CutDetectMember.ALERT, o, 4);
        CHECKS.due("an outsider does not answer old messages", Drive.usedSlots(c), used - 1);
        CHECKS.due("no process changed", Arrays.equals(before, Checks.processSnapshot(c)), true);
    }

    private static void oldMessageIsAnsweredWithWelcome() {
        CutDetectMember c = new CutDetectMember(5, 2, 1, 1);
        Drive.must(c.fallback(2), "fallback(2)");
        Drive.decideFast(c, 0, 4);
        Drive.dropKind(c, CutDetectMember.WELCOME);
        Drive.dropKind(c, CutDetectMember.ALERT);
        int[] before = Checks.processSnapshot(c);
        Drive.give(c, CutDetectMember.PREPARE, 2, 0);
        int welcome = Drive.find(c, CutDetectMember.WELCOME, 0);
        CHECKS.message("welcome to the one behind", c, welcome, CutDetectMember.WELCOME, 0, 1, 15, 16, 0, 4);
        CHECKS.due("0 itself stays as it was", Arrays.equals(before, Checks.processSnapshot(c)), true);
        Drive.give(c, CutDetectMember.VOTE, 4, 0);
        int second = welcomeTo(c, 4);
        CHECKS.message("welcome to one that is out", c, second, CutDetectMember.WELCOME, 0, 1, 15, 16, 0, 16);
    }

    private static void ownOldMessageIsNotAnswered() {
        CutDetectMember c = new CutDetectMember(5, 2, 1, 1);
        Drive.must(c.fallback(0), "fallback(0)");
        Drive.decideFast(c, 0, 4);
        Drive.dropKind(c, CutDetectMember.WELCOME);
        int[] before = Checks.processSnapshot(c);
        int used = Drive.usedSlots(c);
        Drive.give(c, CutDetectMember.PREPARE, 0, 0);
        CHECKS.due("no welcome to itself", Drive.usedSlots(c), used);
        CHECKS.due("no process changed", Arrays.equals(before, Checks.processSnapshot(c)), true);
    }

    private static void newerMessageIsIgnored() {
        CutDetectMember c = new CutDetectMember(5, 2, 1, 1);
        Drive.decideFast(c, 0, 4);
        Drive.dropAll(c);
        Drive.must(c.fallback(0), "fallback(0)");
        Drive.must(c.observe(0, 3), "observe(0, 3)");
        int[] before = Checks.processSnapshot(c);
        Drive.give(c, CutDetectMember.PREPARE, 0, 1, 2);
        Drive.give(c, CutDetectMember.ALERT, 0, 1, 2);
        CHECKS.due("no answer", Drive.usedSlots(c), 2);
        CHECKS.due("no process changed", Arrays.equals(before, Checks.processSnapshot(c)), true);
    }

    private static void onlyTheReceiverChanges() {
        CutDetectMember c = new CutDetectMember(5, 2, 1, 1);
        int o = Drive.alert(c, 0, 4);
        for (int p = 0; p < 5; p++) {
            int[] before = Checks.processSnapshot(c);
            Drive.give(c, CutDetectMember.ALERT, o, p);
            System.arraycopy(Checks.snapshotOf(c, p), 0, before, p * 45, 45);
            CHECKS.due("only " + p + " changes", Arrays.equals(before, Checks.processSnapshot(c)), true);
        }
        for (int q = 0; q < 5; q++) {
            int[] before = Checks.processSnapshot(c);
            Drive.give(c, CutDetectMember.VOTE, q, 2);
            System.arraycopy(Checks.snapshotOf(c, 2), 0, before, 90, 45);
            CHECKS.due("only 2 changes", Arrays.equals(before, Checks.processSnapshot(c)), true);
        }
    }
}
