/** Promise 3: crash. */
public final class CrashTest {
    private static final Checks CHECKS = new Checks();

    public static void main(String[] args) {
        everyProcess();
        wrongIds();
        alreadyCrashed();
        stateStaysReadable();
        messagesStay();
        messagesPassWithoutEffect();
        welcomePassesWithoutEffect();
        crashedForGood();
        CHECKS.end();
    }

    /** "Otherwise it sets crashed(p) = true, answers true, and changes nothing else." */
    private static void everyProcess() {
        CutDetectMember c = new CutDetectMember(5, 2, 2, 1);
        Drive.must(c.observe(0, 4), "observe(0, 4)");
        for (int p = 0; p < 16; p++) {
            int[] before = Checks.snapshot(c);
            CHECKS.due("crash(" + p + ")", c.crash(p), true);
            before[p * Checks.CELLS] = CutDetectMember.ST_CRASHED;
            CHECKS.same("crash(" + p + ") changes only that", Checks.snapshot(c), before);
        }
    }

    /** "`crash(p)` is refused if p is not in 0..15" */
    private static void wrongIds() {
        CutDetectMember c = new CutDetectMember(5, 2, 2, 1);
        for (int wrong : Checks.WRONG_IDS) {
            CHECKS.refused("crash(" + wrong + ")", c, () -> c.crash(wrong));
        }
    }

    /** "or crashed(p) is already true." */
    private static void alreadyCrashed() {
        CutDetectMember c = new CutDetectMember(5, 2, 2, 1);
        for (int p = 0; p < 16; p++) {
            int crashed = p;
            CHECKS.due("crash(" + p + ")", c.crash(p), true);
            CHECKS.refused("crash(" + p + ") again", c, () -> c.crash(crashed));
        }
        CHECKS.refused("crash(0) once more", c, () -> c.crash(0));
    }

    /** "All of p's other state stays as it was and stays readable through the getters." */
    private static void stateStaysReadable() {
        CutDetectMember c = Drive.ahead(5, 4, 0, 1, 2);
        Drive.castVotes(c, 7, 0, 1, 2);
        Drive.acceptSent(c, 2, 0, 1, 2);
        Drive.give(c, CutDetectMember.ACCEPT, 2, 0, 2);
        Drive.give(c, CutDetectMember.ACCEPTED, 0, 2);
        Drive.give(c, CutDetectMember.VOTE, 1, 2);
        int[] before = Checks.snapshot(c);
        CHECKS.due("crash(2)", c.crash(2), true);
        before[2 * Checks.CELLS] = CutDetectMember.ST_CRASHED;
        CHECKS.same("all else stays", Checks.snapshot(c), before);
        CHECKS.due("status(2)", c.status(2), CutDetectMember.ST_CRASHED);
        CHECKS.due("configOf(2)", c.configOf(2), 1);
        CHECKS.due("membersOf(2)", c.membersOf(2), 15);
        CHECKS.due("lastCut(2)", c.lastCut(2), 16);
        CHECKS.due("reportCount(2, 7)", c.reportCount(2, 7), 1);
        CHECKS.due("proposalOf(2)", c.proposalOf(2), 128);
        CHECKS.due("voteOf(2, 1)", c.voteOf(2, 1), 128);
        CHECKS.due("observer(2, 3, 0)", c.observer(2, 3, 0), 0);
        CHECKS.rounds("crashed", c, 2, 18, 18, 128, 18, 2, 18, 1, 3);
    }

    /** "Messages addressed to p stay in their slots and may still be delivered" */
    private static void messagesStay() {
        CutDetectMember c = new CutDetectMember(5, 2, 1, 1);
        Drive.must(c.observe(0, 4), "observe(0, 4)");
        Drive.must(c.crash(1), "crash(1)");
        CHECKS.message("1 has yet to receive", c, 0, CutDetectMember.ALERT, 0, 0, 4, 1, 0, 31);
        CHECKS.due("deliver(0, 1)", c.deliver(0, 1), true);
        CHECKS.message("1 has received", c, 0, CutDetectMember.ALERT, 0, 0, 4, 1, 0, 29);
        CHECKS.refused("deliver(0, 1) again", c, () -> c.deliver(0, 1));
        // What a process has sent before it crashes goes on without it.
        Drive.must(c.crash(0), "crash(0)");
        CHECKS.due("deliver(0, 2)", c.deliver(0, 2), true);
        CHECKS.due("reportCount(2, 4)", c.reportCount(2, 4), 1);
    }

    /** "without effect on p": each kind that would change a process that is not crashed. */
    private static void messagesPassWithoutEffect() {
        for (int kind = CutDetectMember.ALERT; kind <= CutDetectMember.ACCEPTED; kind++) {
            CutDetectMember c = new CutDetectMember(5, 2, 1, 1);
            Drive.castVotes(c, 4, 0, 1, 2, 4);
            int slot = Drive.pending(c, kind, 1, 3, 0, 1, 2);
            Drive.must(c.crash(3), "crash(3)");
            CHECKS.withoutEffect("kind " + kind + " to a crashed process", c, slot, 3);
        }
    }

    /** "without effect on p": a welcome to a crashed member and to a crashed outsider. */
    private static void welcomePassesWithoutEffect() {
        for (int s : new int[] {4, 7}) {
            CutDetectMember c = new CutDetectMember(5, 2, 1, 1);
            Drive.decideFast(c, 2, s);
            Drive.must(c.crash(s), "crash(" + s + ")");
            int welcome = Drive.find(c, CutDetectMember.WELCOME, 2);
            CHECKS.withoutEffect("a welcome to a crashed process", c, welcome, s);
        }
    }

    /** "From then on status(p) is ST_CRASHED." */
    private static void crashedForGood() {
        CutDetectMember c = new CutDetectMember(5, 2, 1, 1);
        Drive.must(c.crash(4), "crash(4)");
        Drive.must(c.crash(7), "crash(7)");
        Drive.castVotes(c, 7, 0, 1, 2, 3);
        for (int q = 0; q < 4; q++) {
            Drive.give(c, CutDetectMember.VOTE, q, 0, 1, 2, 3, 4);
        }
        CHECKS.due("0 counts 7 as a member", c.membersOf(0), Drive.mask(0, 1, 2, 3, 4, 7));
        Drive.give(c, CutDetectMember.WELCOME, 0, 7);
        CHECKS.due("status(4)", c.status(4), CutDetectMember.ST_CRASHED);
        CHECKS.due("status(7)", c.status(7), CutDetectMember.ST_CRASHED);
        CHECKS.installed("4 stays where it was", c, 4, 0, 31, 0);
        CHECKS.installed("7 stays where it was", c, 7, 0, 31, 0);
    }
}
