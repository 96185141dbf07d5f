import java.util.Arrays;

/** Promise 7: msg. */
public final class MsgTest {
    private static final Checks CHECKS = new Checks();
    private static final int[] WRONG_SLOTS = {-1, 32, 33, -32, Integer.MIN_VALUE, Integer.MAX_VALUE};
    private static final int[] WRONG_FIELDS = {-1, 7, 8, -7, Integer.MIN_VALUE, Integer.MAX_VALUE};

    public static void main(String[] args) {
        // In configuration 1 process 1 accepts cut 8 in round 18, so every field of its promise differs from 0.
        CutDetectMember c = new CutDetectMember(5, 2, 1, 1);
        Drive.castVotes(c, 4, 0, 1, 2, 3);
        for (int q = 0; q < 4; q++) {
            Drive.give(c, CutDetectMember.VOTE, q, 0, 1, 2);
        }
        Drive.castVotes(c, 3, 2);
        Drive.must(c.fallback(2), "fallback(2)");
        Drive.give(c, CutDetectMember.PREPARE, 2, 0, 1, 2);
        for (int q = 0; q < 3; q++) {
            Drive.give(c, CutDetectMember.PROMISE, q, 2);
        }
        Drive.give(c, CutDetectMember.ACCEPT, 2, 1);
        Drive.dropAll(c);
        Drive.must(c.fallback(0), "fallback(0)");
        Drive.must(c.deliver(0, 1), "deliver(0, 1)");
        CHECKS.message("prepare", c, 0, CutDetectMember.PREPARE, 0, 1, 32, 0, 0, 13);
        CHECKS.message("promise", c, 1, CutDetectMember.PROMISE, 1, 1, 32, 18, 8, 1);
        CHECKS.freeSlot("free", c, 2);

        int[] before = Checks.snapshot(c);
        for (int slot : WRONG_SLOTS) {
            for (int f = -1; f <= 7; f++) {
                CHECKS.due("msg(" + slot + ", " + f + ")", c.msg(slot, f), 0);
            }
        }
        for (int f : WRONG_FIELDS) {
            for (int slot = -1; slot <= 32; slot++) {
                CHECKS.due("msg(" + slot + ", " + f + ")", c.msg(slot, f), 0);
            }
        }
        CHECKS.due("msg changes nothing", Arrays.equals(before, Checks.snapshot(c)), true);

        CutDetectMember full = new CutDetectMember(3, 2, 1, 1);
        Drive.fillPool(full, 2);
        for (int slot = 0; slot < CutDetectMember.SLOTS; slot++) {
            CHECKS.message("slot", full, slot, CutDetectMember.PREPARE, 2, 0, 16 * slot + 18, 0, 0, 7);
        }
        CHECKS.end();
    }
}
