import java.util.Arrays;

/** Promise 4: fallback. */
public final class FallbackTest {
    private static final Checks CHECKS = new Checks();

    public static void main(String[] args) {
        ordinary();
        greaterOfPromisedAndOwnRound();
        collectsAnew();
        refusals();
        leavesTheRestAlone();
        roundsWrapAround();
        CHECKS.end();
    }

    private static void ordinary() {
        for (int p = 0; p < 16; p++) {
            CutDetectMember c = new CutDetectMember(16, 2, 2, 1);
            CHECKS.due("fallback(" + p + ")", c.fallback(p), true);
            CHECKS.due("crnd(" + p + ")", c.paxos(p, CutDetectMember.P_CRND), 16 + p);
            CHECKS.due("phase(" + p + ")", c.paxos(p, CutDetectMember.P_PHASE), 1);
            CHECKS.due("promised(" + p + ")", c.paxos(p, CutDetectMember.P_PROMISED), 0);
            CHECKS.message("prepare", c, 0, CutDetectMember.PREPARE, p, 0, 16 + p, 0, 0, 0xFFFF);
            CHECKS.due("fallback(" + p + ") again", c.fallback(p), true);
            CHECKS.due("crnd(" + p + ") again", c.paxos(p, CutDetectMember.P_CRND), 32 + p);
            CHECKS.message("second prepare", c, 1, CutDetectMember.PREPARE, p, 0, 32 + p, 0, 0, 0xFFFF);
        }
    }

    private static void greaterOfPromisedAndOwnRound() {
        CutDetectMember c = new CutDetectMember(5, 2, 2, 1);
        for (int i = 0; i < 3; i++) {
            Drive.must(c.fallback(4), "fallback(4)");
        }
        Drive.must(c.deliver(2, 1), "deliver the third prepare");
        CHECKS.due("promised(1)", c.paxos(1, CutDetectMember.P_PROMISED), 52);
        CHECKS.due("fallback(1)", c.fallback(1), true);
        CHECKS.due("crnd(1) is above what it promised", c.paxos(1, CutDetectMember.P_CRND), 65);
        CHECKS.due("promised(1) stays", c.paxos(1, CutDetectMember.P_PROMISED), 52);
        CHECKS.due("fallback(1) again", c.fallback(1), true);
        CHECKS.due("crnd(1) is above its own round", c.paxos(1, CutDetectMember.P_CRND), 81);
        Drive.must(c.deliver(0, 0), "deliver the first prepare");
        CHECKS.due("fallback(0)", c.fallback(0), true);
        CHECKS.due("crnd(0) is above 20", c.paxos(0, CutDetectMember.P_CRND), 32);
    }

    private static void collectsAnew() {
        CutDetectMember c = new CutDetectMember(5, 2, 1, 1);
        Drive.must(c.fallback(0), "fallback(0)");
        Drive.give(c, CutDetectMember.PREPARE, 0, 0, 1, 2, 3, 4);
        Drive.give(c, CutDetectMember.PROMISE, 0, 0);
        Drive.give(c, CutDetectMember.PROMISE, 1, 0);
        CHECKS.due("two promises", c.paxos(0, CutDetectMember.P_PCOUNT), 2);
        CHECKS.due("fallback(0) again", c.fallback(0), true);
        CHECKS.due("none for the new round", c.paxos(0, CutDetectMember.P_PCOUNT), 0);
        CHECKS.due("phase(0)", c.paxos(0, CutDetectMember.P_PHASE), 1);
        Drive.give(c, CutDetectMember.PROMISE, 2, 0);
        CHECKS.due("an old promise does not count", c.paxos(0, CutDetectMember.P_PCOUNT), 0);

        CutDetectMember sent = new CutDetectMember(3, 2, 1, 1);
        Drive.castVotes(sent, 2, 0, 1);
        Drive.must(sent.fallback(0), "fallback(0)");
        Drive.give(sent, CutDetectMember.PREPARE, 0, 0, 1);
        Drive.give(sent, CutDetectMember.PROMISE, 0, 0);
        Drive.give(sent, CutDetectMember.PROMISE, 1, 0);
        CHECKS.due("accept sent", sent.paxos(0, CutDetectMember.P_PHASE), 2);
        CHECKS.due("fallback(0) after the accept", sent.fallback(0), true);
        CHECKS.due("collecting again", sent.paxos(0, CutDetectMember.P_PHASE), 1);
        CHECKS.due("crnd(0)", sent.paxos(0, CutDetectMember.P_CRND), 32);
    }

    private static void refusals() {
        CutDetectMember c = new CutDetectMember(5, 2, 2, 1);
        for (int wrong : Checks.WRONG_IDS) {
            CHECKS.refused("fallback(" + wrong + ")", c, () -> c.fallback(wrong));
        }
        for (int p = 5; p < 16; p++) {
            int outsider = p;
            CHECKS.refused("fallback(" + p + ") of an outsider", c, () -> c.fallback(outsider));
        }
        Drive.must(c.crash(2), "crash(2)");
        CHECKS.refused("fallback(2) of a crashed one", c, () -> c.fallback(2));
        Drive.fillPool(c, 0);
        CHECKS.due("crnd(0) after 32 rounds", c.paxos(0, CutDetectMember.P_CRND), 512);
        CHECKS.refused("fallback(0) with a full pool", c, () -> c.fallback(0));
        CHECKS.refused("fallback(1) with a full pool", c, () -> c.fallback(1));
        for (int p = 0; p < 5; p++) {
            Drive.must(c.drop(31, p), "drop");
        }
        CHECKS.due("fallback(1) with one free slot", c.fallback(1), true);
        CHECKS.message("in the last slot", c, 31, CutDetectMember.PREPARE, 1, 0, 17, 0, 0, 31);
    }

    private static void leavesTheRestAlone() {
        CutDetectMember c = new CutDetectMember(5, 2, 1, 1);
        Drive.decideFast(c, 1, 4);
        Drive.dropAll(c);
        int[] before = Checks.processSnapshot(c);
        CHECKS.due("fallback(1)", c.fallback(1), true);
        CHECKS.message("to the members of 1", c, 0, CutDetectMember.PREPARE, 1, 1, 17, 0, 0, 15);
        before[45 + 37 + CutDetectMember.P_CRND] = 17;
        before[45 + 37 + CutDetectMember.P_PHASE] = 1;
        CHECKS.due("nothing else changes", Arrays.equals(before, Checks.processSnapshot(c)), true);
    }

    private static void roundsWrapAround() {
        CutDetectMember c = new CutDetectMember(3, 2, 2, 1);
        for (int i = 1; i < 1 << 27; i++) {
            c.fallback(2);
            c.drop(0, 0);
            c.drop(0, 1);
            c.drop(0, 2);
        }
        CHECKS.due("the greatest round of 2", c.paxos(2, CutDetectMember.P_CRND), Integer.MAX_VALUE - 13);
        Drive.must(c.fallback(2), "fallback(2)");
        CHECKS.due("past it", c.paxos(2, CutDetectMember.P_CRND), Integer.MIN_VALUE + 2);
        CHECKS.message("prepare", c, 0, CutDetectMember.PREPARE, 2, 0, Integer.MIN_VALUE + 2, 0, 0, 7);
        Drive.give(c, CutDetectMember.PREPARE, 2, 0);
        CHECKS.due("a round below 0 is not promised", c.paxos(0, CutDetectMember.P_PROMISED), 0);
        Drive.must(c.fallback(2), "fallback(2)");
        CHECKS.due("promised(2) is the greater now", c.paxos(2, CutDetectMember.P_CRND), 18);
    }
}
