import java.util.Arrays;

/** Promise 2: observe. */
public final class ObserveTest {
    private static final Checks CHECKS = new Checks();

    public static void main(String[] args) {
        ordinary();
        severalRingsInOneAlert();
        joins();
        wrongIds();
        refusedByStatus();
        refusedWithoutRing();
        refusedWithoutSlot();
        usesTheObserversOwnMembers();
        CHECKS.end();
    }

    private static void ordinary() {
        CutDetectMember c = new CutDetectMember(5, 2, 2, 1);
        int[] before = Checks.processSnapshot(c);
        CHECKS.due("observe(0, 4)", c.observe(0, 4), true);
        CHECKS.message("removal seen on ring 0", c, 0, CutDetectMember.ALERT, 0, 0, 4, 1, 0, 31);
        CHECKS.due("observe(1, 4)", c.observe(1, 4), true);
        CHECKS.message("removal seen on ring 1", c, 1, CutDetectMember.ALERT, 1, 0, 4, 2, 0, 31);
        CHECKS.freeSlot("no third message", c, 2);
        CHECKS.due("no process changed", Arrays.equals(before, Checks.processSnapshot(c)), true);
        CHECKS.due("observe(0, 4) again", c.observe(0, 4), true);
        CHECKS.message("the same alert again", c, 2, CutDetectMember.ALERT, 0, 0, 4, 1, 0, 31);
    }

    private static void severalRingsInOneAlert() {
        // Of three processes, 1 watches 0 on rings 0, 1 and 2, and 2 watches 0 on the other three.
        CutDetectMember c = new CutDetectMember(3, 6, 6, 1);
        CHECKS.due("observe(1, 0)", c.observe(1, 0), true);
        CHECKS.message("rings 0, 1, 2", c, 0, CutDetectMember.ALERT, 1, 0, 0, 7, 0, 7);
        CHECKS.due("observe(2, 0)", c.observe(2, 0), true);
        CHECKS.message("rings 3, 4, 5", c, 1, CutDetectMember.ALERT, 2, 0, 0, 56, 0, 7);
        CutDetectMember fewer = new CutDetectMember(3, 2, 2, 1);
        CHECKS.due("observe(1, 0) of two rings", fewer.observe(1, 0), true);
        CHECKS.message("rings 0, 1", fewer, 0, CutDetectMember.ALERT, 1, 0, 0, 3, 0, 7);
        CHECKS.refused("observe(2, 0) of two rings", fewer, () -> fewer.observe(2, 0));
    }

    private static void joins() {
        // On ring 0 key(5) = 1 is followed by 0 (3); on ring 1 key(5) = 13 is followed by 2 (15).
        CutDetectMember c = new CutDetectMember(5, 2, 2, 1);
        CHECKS.due("observe(0, 5)", c.observe(0, 5), true);
        CHECKS.message("join seen on ring 0", c, 0, CutDetectMember.ALERT, 0, 0, 5, 1, 0, 31);
        CHECKS.due("observe(2, 5)", c.observe(2, 5), true);
        CHECKS.message("join seen on ring 1", c, 1, CutDetectMember.ALERT, 2, 0, 5, 2, 0, 31);
        CHECKS.refused("observe(1, 5)", c, () -> c.observe(1, 5));
        CHECKS.due("a subject may be crashed", c.crash(15), true);
        // On ring 0 key(15) = 14 is followed by 4 (15).
        CHECKS.due("observe(4, 15)", c.observe(4, 15), true);
    }

    private static void wrongIds() {
        CutDetectMember c = new CutDetectMember(16, 6, 6, 1);
        for (int wrong : Checks.WRONG_IDS) {
            for (int p = 0; p < 16; p++) {
                int right = p;
                CHECKS.refused("observe(" + wrong + ", " + p + ")", c, () -> c.observe(wrong, right));
                CHECKS.refused("observe(" + p + ", " + wrong + ")", c, () -> c.observe(right, wrong));
            }
            CHECKS.refused("observe(" + wrong + ", " + wrong + ")", c, () -> c.observe(wrong, wrong));
        }
        for (int p = 0; p < 16; p++) {
            int self = p;
            CHECKS.refused("observe(" + p + ", " + p + ")", c, () -> c.observe(self, self));
        }
    }

    private static void refusedByStatus() {
        CutDetectMember c = new CutDetectMember(5, 2, 2, 1);
        for (int o = 5; o < 16; o++) {
            for (int s = 0; s < 16; s++) {
                int outsider = o;
                int subject = s;
                CHECKS.refused("observe(" + o + ", " + s + ")", c, () -> c.observe(outsider, subject));
            }
        }
        Drive.must(c.crash(0), "crash(0)");
        CHECKS.refused("observe(0, 4) when 0 is crashed", c, () -> c.observe(0, 4));
        CHECKS.due("observe(1, 4) when 0 is crashed", c.observe(1, 4), true);
        CHECKS.message("a crashed member is still a receiver", c, 0, CutDetectMember.ALERT, 1, 0, 4, 2, 0, 31);
    }

    private static void refusedWithoutRing() {
        CutDetectMember c = new CutDetectMember(5, 2, 2, 1);
        CHECKS.refused("observe(2, 4)", c, () -> c.observe(2, 4));
        CHECKS.refused("observe(3, 4)", c, () -> c.observe(3, 4));
    }

    private static void refusedWithoutSlot() {
        CutDetectMember c = new CutDetectMember(5, 2, 2, 1);
        for (int i = 0; i < CutDetectMember.SLOTS; i++) {
            CHECKS.due("observe(0, 4), time " + i, c.observe(0, 4), true);
        }
        CHECKS.refused("observe(0, 4) with a full pool", c, () -> c.observe(0, 4));
        for (int p = 0; p < 5; p++) {
            Drive.must(c.drop(17, p), "drop");
        }
        CHECKS.due("observe(1, 4) with one free slot", c.observe(1, 4), true);
        CHECKS.message("in the freed slot", c, 17, CutDetectMember.ALERT, 1, 0, 4, 2, 0, 31);
        CHECKS.refused("observe(1, 4) with a full pool", c, () -> c.observe(1, 4));
    }

    private static void usesTheObserversOwnMembers() {
        CutDetectMember c = new CutDetectMember(5, 2, 1, 1);
        Drive.decideFast(c, 2, 0);
        Drive.dropAll(c);
        // Without 0, 1 follows 4 on both rings; 2 knows that, and 1 does not.
        CHECKS.due("membersOf(2)", c.membersOf(2), 30);
        CHECKS.due("observe(1, 4) by the old members", c.observe(1, 4), true);
        CHECKS.message("old configuration", c, 0, CutDetectMember.ALERT, 1, 0, 4, 2, 0, 31);
        // On ring 0, 2 (9) follows 1 (6); on ring 1, 2 (15) follows 1 (10).
        CHECKS.due("observe(2, 1)", c.observe(2, 1), true);
        CHECKS.message("new configuration", c, 1, CutDetectMember.ALERT, 2, 1, 1, 3, 0, 30);
        // 0 is now a join: on ring 0 it is 1 (6) that follows 0 (3), on ring 1 it is 4 (8) after 0 (5).
        CHECKS.refused("observe(2, 0)", c, () -> c.observe(2, 0));
    }
}
