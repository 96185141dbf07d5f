import java.util.Arrays;

/** Promise 6: drop. */
public final class DropTest {
    private static final Checks CHECKS = new Checks();

    public static void main(String[] args) {
        refusals();
        ordinary();
        welcomesAndTheCrashed();
        CHECKS.end();
    }

    private static void refusals() {
        CutDetectMember c = new CutDetectMember(5, 2, 2, 1);
        for (int slot = 0; slot < CutDetectMember.SLOTS; slot++) {
            int free = slot;
            CHECKS.refused("drop(" + slot + ", 0) of a free slot", c, () -> c.drop(free, 0));
        }
        Drive.must(c.observe(0, 4), "observe(0, 4)");
        for (int wrong : new int[] {-1, 32, 33, -32, Integer.MIN_VALUE, Integer.MAX_VALUE}) {
            CHECKS.refused("drop(" + wrong + ", 0)", c, () -> c.drop(wrong, 0));
        }
        for (int wrong : Checks.WRONG_IDS) {
            CHECKS.refused("drop(0, " + wrong + ")", c, () -> c.drop(0, wrong));
        }
        for (int p = 5; p < 16; p++) {
            int outsider = p;
            CHECKS.refused("drop(0, " + p + ") of no receiver", c, () -> c.drop(0, outsider));
        }
        CHECKS.due("drop(0, 2)", c.drop(0, 2), true);
        CHECKS.refused("drop(0, 2) again", c, () -> c.drop(0, 2));
        CHECKS.refused("deliver(0, 2) after the drop", c, () -> c.deliver(0, 2));
    }

    private static void ordinary() {
        CutDetectMember c = new CutDetectMember(5, 2, 1, 1);
        Drive.must(c.observe(0, 4), "observe(0, 4)");
        Drive.must(c.fallback(3), "fallback(3)");
        int[] before = Checks.processSnapshot(c);
        int dest = 31;
        for (int p : new int[] {4, 0, 3, 1}) {
            CHECKS.due("drop(0, " + p + ")", c.drop(0, p), true);
            dest -= 1 << p;
            CHECKS.message("after " + p, c, 0, CutDetectMember.ALERT, 0, 0, 4, 1, 0, dest);
        }
        CHECKS.due("drop(0, 2), the last", c.drop(0, 2), true);
        CHECKS.freeSlot("after the last", c, 0);
        CHECKS.message("the other slot stays", c, 1, CutDetectMember.PREPARE, 3, 0, 19, 0, 0, 31);
        CHECKS.due("no process changed", Arrays.equals(before, Checks.processSnapshot(c)), true);
        CHECKS.due("used slots", Drive.usedSlots(c), 1);
        Drive.must(c.observe(1, 4), "observe(1, 4)");
        CHECKS.message("the free slot is used again", c, 0, CutDetectMember.ALERT, 1, 0, 4, 2, 0, 31);
    }

    private static void welcomesAndTheCrashed() {
        CutDetectMember c = new CutDetectMember(5, 2, 1, 1);
        Drive.decideFast(c, 0, 7);
        int welcome = Drive.find(c, CutDetectMember.WELCOME, 0);
        CHECKS.due("drop a welcome", c.drop(welcome, 7), true);
        CHECKS.due("configOf(7)", c.configOf(7), 0);
        CHECKS.freeSlot("the welcome is gone", c, welcome);
        Drive.must(c.fallback(1), "fallback(1)");
        Drive.must(c.crash(2), "crash(2)");
        int prepare = Drive.find(c, CutDetectMember.PREPARE, 1);
        CHECKS.due("drop for a crashed one", c.drop(prepare, 2), true);
        CHECKS.due("the rest are still due", c.msg(prepare, CutDetectMember.F_DEST), 27);
    }
}
