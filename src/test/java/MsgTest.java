/** Promise 7: msg. */
public final class MsgTest {
    private static final Checks CHECKS = new Checks();
    private static final int[] WRONG_FIELDS = {-1, 7, 8, -7, 14, Integer.MIN_VALUE, Integer.MAX_VALUE};

    public static void main(String[] args) {
        everyField();
        everySlot();
        wrongSlots();
        wrongFields();
        freeSlots();
        CHECKS.end();
    }

    /** In configuration 1 process 1 has accepted cut 8 in round 18, so every field of its promise differs from 0. */
    private static CutDetectMember promised() {
        CutDetectMember c = Drive.ahead(5, 4, 0, 1, 2);
        Drive.castVotes(c, 3, 2);
        Drive.acceptSent(c, 2, 0, 1, 2);
        Drive.give(c, CutDetectMember.ACCEPT, 2, 1);
        Drive.dropAll(c);
        Drive.must(c.fallback(0) && c.deliver(0, 1), "the promise of 1");
        return c;
    }

    /** "`msg(slot, f)` answers field f of the slot" */
    private static void everyField() {
        CutDetectMember c = promised();
        CHECKS.message("prepare", c, 0, CutDetectMember.PREPARE, 0, 1, 32, 0, 0, 13);
        CHECKS.message("promise", c, 1, CutDetectMember.PROMISE, 1, 1, 32, 18, 8, 1);
    }

    private static void everySlot() {
        CutDetectMember full = new CutDetectMember(3, 2, 1, 1);
        for (int slot = 0; slot < CutDetectMember.SLOTS; slot++) {
            Drive.must(full.fallback(2), "fallback(2)");
        }
        for (int slot = 0; slot < CutDetectMember.SLOTS; slot++) {
            CHECKS.message("slot", full, slot, CutDetectMember.PREPARE, 2, 0, 16 * slot + 18, 0, 0, 7);
        }
    }

    /** "It answers 0 if slot is not in 0..SLOTS-1" */
    private static void wrongSlots() {
        CutDetectMember c = promised();
        Drive.fillPool(c, 0);
        int[] before = Checks.snapshot(c);
        for (int slot : Checks.WRONG_SLOTS) {
            for (int f = -8; f <= 14; f++) {
                CHECKS.due("msg(" + slot + ", " + f + ")", c.msg(slot, f), 0);
            }
        }
        CHECKS.same("msg changes nothing", Checks.snapshot(c), before);
    }

    /** "if f is not in 0..6" */
    private static void wrongFields() {
        CutDetectMember c = promised();
        Drive.fillPool(c, 0);
        int[] before = Checks.snapshot(c);
        for (int f : WRONG_FIELDS) {
            for (int slot = -1; slot <= 32; slot++) {
                CHECKS.due("msg(" + slot + ", " + f + ")", c.msg(slot, f), 0);
            }
        }
        CHECKS.same("msg changes nothing", Checks.snapshot(c), before);
    }

    /** "or if the slot is free": never used, dropped, and delivered. */
    private static void freeSlots() {
        CutDetectMember c = promised();
        CHECKS.freeSlot("never used", c, 31);
        CHECKS.due("the promise is delivered", c.deliver(1, 0), true);
        CHECKS.freeSlot("delivered", c, 1);
        Drive.dropSlot(c, 0);
        CHECKS.freeSlot("dropped", c, 0);
    }
}
