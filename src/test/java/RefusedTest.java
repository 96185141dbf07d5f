import java.util.function.BooleanSupplier;

/** "Every refused call answers false (or the stated value) and changes nothing.", where there is much to change. */
public final class RefusedTest {
    private static final Checks CHECKS = new Checks();

    public static void main(String[] args) {
        CutDetectMember some = busy();
        wrongArguments("some slots are free", some);
        wrongStates("some slots are free", some);
        CutDetectMember full = busy();
        Drive.fillPool(full, 0);
        wrongArguments("no slot is free", full);
        wrongStates("no slot is free", full);
        noSlot(full);
        CHECKS.end();
    }

    /**
     * 0, 1 and 2 are in configuration 1 (without 4), 3 and 4 are behind. 0 has sent an accept, 1 has
     * accepted, and 2 learns of it and collects promises itself. 5 is out, 6 is crashed.
     */
    private static CutDetectMember busy() {
        CutDetectMember c = Drive.ahead(5, 4, 0, 1, 2);
        Drive.must(c.crash(6), "crash(6)");
        Drive.castVotes(c, 3, 0, 1, 2);
        Drive.acceptSent(c, 0, 0, 1, 2);
        Drive.give(c, CutDetectMember.ACCEPT, 0, 0, 1);
        Drive.give(c, CutDetectMember.ACCEPTED, 1, 2);
        Drive.give(c, CutDetectMember.ACCEPTED, 0, 2);
        Drive.must(c.deliver(Drive.find(c, CutDetectMember.VOTE, 1, 4), 2), "a vote to 2");
        Drive.prepared(c, 2, 0, 2);
        Drive.promisesTo(c, 2, 0);
        CHECKS.rounds("accept sent", c, 0, 34, 16, 8, 16, 2, 0, 0, 3);
        CHECKS.rounds("collecting and learning", c, 2, 34, 0, 8, 34, 1, 16, 2, 1);
        return c;
    }

    private static void refused(String what, CutDetectMember c, String name, int a, int b, BooleanSupplier call) {
        CHECKS.refused(what + ", " + name + "(" + a + ", " + b + ")", c, call);
    }

    private static void wrongArguments(String what, CutDetectMember c) {
        for (int wrong : Checks.WRONG_IDS) {
            refused(what, c, "crash", wrong, 0, () -> c.crash(wrong));
            refused(what, c, "fallback", wrong, 0, () -> c.fallback(wrong));
            for (int p = -1; p <= 16; p++) {
                int id = p;
                refused(what, c, "observe", wrong, p, () -> c.observe(wrong, id));
                refused(what, c, "observe", p, wrong, () -> c.observe(id, wrong));
            }
            for (int slot = -1; slot <= 32; slot++) {
                int from = slot;
                refused(what, c, "deliver", slot, wrong, () -> c.deliver(from, wrong));
                refused(what, c, "drop", slot, wrong, () -> c.drop(from, wrong));
            }
        }
        for (int wrong : Checks.WRONG_SLOTS) {
            for (int p = -1; p <= 16; p++) {
                int id = p;
                refused(what, c, "deliver", wrong, p, () -> c.deliver(wrong, id));
                refused(what, c, "drop", wrong, p, () -> c.drop(wrong, id));
            }
        }
        statedValues(what, c);
    }

    /** "(or the stated value)" */
    private static void statedValues(String what, CutDetectMember c) {
        int[] before = Checks.snapshot(c);
        for (int wrong : Checks.WRONG_IDS) {
            CHECKS.due("status(" + wrong + ")", c.status(wrong), 0);
            CHECKS.due("configOf(" + wrong + ")", c.configOf(wrong), 0);
            CHECKS.due("membersOf(" + wrong + ")", c.membersOf(wrong), 0);
            CHECKS.due("lastCut(" + wrong + ")", c.lastCut(wrong), 0);
            CHECKS.due("proposalOf(" + wrong + ")", c.proposalOf(wrong), -1);
            CHECKS.due("observer(0, 1, " + wrong + ")", c.observer(0, 1, wrong), -1);
            CHECKS.due("paxos(2, " + wrong + ")", c.paxos(2, wrong), 0);
            CHECKS.due("msg(0, " + wrong + ")", c.msg(0, wrong), 0);
            for (int p = 0; p < 16; p++) {
                CHECKS.due("reportCount(" + p + ", " + wrong + ")", c.reportCount(p, wrong), 0);
                CHECKS.due("reportCount(" + wrong + ", " + p + ")", c.reportCount(wrong, p), 0);
                CHECKS.due("voteOf(" + p + ", " + wrong + ")", c.voteOf(p, wrong), -1);
                CHECKS.due("voteOf(" + wrong + ", " + p + ")", c.voteOf(wrong, p), -1);
                CHECKS.due("observer(" + p + ", " + wrong + ", 0)", c.observer(p, wrong, 0), -1);
                CHECKS.due("observer(" + wrong + ", " + p + ", 0)", c.observer(wrong, p, 0), -1);
                CHECKS.due("paxos(" + wrong + ", " + p + ")", c.paxos(wrong, p), 0);
            }
        }
        for (int wrong : Checks.WRONG_SLOTS) {
            for (int f = 0; f < 7; f++) {
                CHECKS.due("msg(" + wrong + ", " + f + ")", c.msg(wrong, f), 0);
            }
        }
        CHECKS.same(what + ", the getters change nothing", Checks.snapshot(c), before);
    }

    private static void wrongStates(String what, CutDetectMember c) {
        refused(what, c, "crash", 6, 0, () -> c.crash(6));
        refused(what, c, "fallback", 5, 0, () -> c.fallback(5));
        refused(what, c, "fallback", 6, 0, () -> c.fallback(6));
        for (int s = 0; s < 16; s++) {
            int subject = s;
            refused(what, c, "observe", 5, s, () -> c.observe(5, subject));
            refused(what, c, "observe", 6, s, () -> c.observe(6, subject));
            refused(what, c, "observe", s, s, () -> c.observe(subject, subject));
        }
        for (int slot = 0; slot < CutDetectMember.SLOTS; slot++) {
            for (int p = 0; p < 16; p++) {
                int from = slot;
                int id = p;
                if ((c.msg(slot, CutDetectMember.F_DEST) >> p & 1) == 0) {
                    refused(what, c, "deliver", slot, p, () -> c.deliver(from, id));
                    refused(what, c, "drop", slot, p, () -> c.drop(from, id));
                }
            }
        }
    }

    /** "no slot is free" */
    private static void noSlot(CutDetectMember c) {
        for (int p = 0; p < 16; p++) {
            int id = p;
            refused("no slot is free", c, "fallback", p, 0, () -> c.fallback(id));
            for (int s = 0; s < 16; s++) {
                int subject = s;
                refused("no slot is free", c, "observe", p, s, () -> c.observe(id, subject));
            }
        }
    }
}
