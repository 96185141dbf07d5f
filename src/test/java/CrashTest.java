import java.util.Arrays;

/** Promise 3: crash. */
public final class CrashTest {
    private static final Checks CHECKS = new Checks();

    public static void main(String[] args) {
        ordinary();
        refusals();
        stateStays();
        messagesPassWithoutEffect();
        CHECKS.end();
    }

    private static void ordinary() {
        CutDetectMember c = new CutDetectMember(5, 2, 2, 1);
        for (int p = 0; p < 16; p++) {
            int[] before = Checks.snapshot(c);
            CHECKS.due("crash(" + p + ")", c.crash(p), true);
            CHECKS.due("status(" + p + ")", c.status(p), CutDetectMember.ST_CRASHED);
            before[p * 45] = CutDetectMember.ST_CRASHED;
            CHECKS.due("crash(" + p + ") changes only that", Arrays.equals(before, Checks.snapshot(c)), true);
        }
    }

    private static void refusals() {
        CutDetectMember c = new CutDetectMember(5, 2, 2, 1);
        for (int wrong : Checks.WRONG_IDS) {
            CHECKS.refused("crash(" + wrong + ")", c, () -> c.crash(wrong));
        }
        Drive.must(c.crash(3), "crash(3)");
        Drive.must(c.crash(9), "crash(9)");
        CHECKS.refused("crash(3) again", c, () -> c.crash(3));
        CHECKS.refused("crash(9) again", c, () -> c.crash(9));
    }

    private static void stateStays() {
        CutDetectMember c = new CutDetectMember(5, 2, 1, 1);
        Drive.decideFast(c, 2, 4);
        Drive.dropAll(c);
        Drive.must(c.fallback(2), "fallback(2)");
        Drive.give(c, CutDetectMember.PREPARE, 2, 2);
        int[] before = Checks.snapshotOf(c, 2);
        int[] slots = Checks.slotSnapshot(c);
        CHECKS.due("crash(2)", c.crash(2), true);
        before[0] = CutDetectMember.ST_CRASHED;
        CHECKS.due("the state of 2 stays", Arrays.equals(before, Checks.snapshotOf(c, 2)), true);
        CHECKS.due("the slots stay", Arrays.equals(slots, Checks.slotSnapshot(c)), true);
        CHECKS.due("configOf(2)", c.configOf(2), 1);
        CHECKS.due("membersOf(2)", c.membersOf(2), 15);
        CHECKS.due("lastCut(2)", c.lastCut(2), 16);
        CHECKS.due("paxos(2, P_PROMISED)", c.paxos(2, CutDetectMember.P_PROMISED), 18);
        CHECKS.due("observer(2, 3, 0)", c.observer(2, 3, 0), 0);
    }

    private static void messagesPassWithoutEffect() {
        CutDetectMember c = new CutDetectMember(5, 2, 1, 1);
        Drive.must(c.observe(0, 4), "observe(0, 4)");
        Drive.must(c.crash(1), "crash(1)");
        int[] before = Checks.processSnapshot(c);
        CHECKS.due("deliver(0, 1)", c.deliver(0, 1), true);
        CHECKS.message("1 has received", c, 0, CutDetectMember.ALERT, 0, 0, 4, 1, 0, 29);
        CHECKS.freeSlot("1 sends nothing", c, 1);
        CHECKS.due("no process changed", Arrays.equals(before, Checks.processSnapshot(c)), true);

        CutDetectMember w = new CutDetectMember(5, 2, 1, 1);
        Drive.decideFast(w, 2, 4);
        Drive.must(w.crash(4), "crash(4)");
        Drive.give(w, CutDetectMember.WELCOME, 2, 4);
        CHECKS.due("a crashed process is not welcomed", w.configOf(4), 0);
        CHECKS.due("the welcome is used up", Drive.find(w, CutDetectMember.WELCOME, 2), -1);
    }
}
