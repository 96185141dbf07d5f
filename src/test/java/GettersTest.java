import java.util.Arrays;

/** Promises 8 to 14 and 16: what a process can be asked for, and what wrong ids answer. */
public final class GettersTest {
    private static final Checks CHECKS = new Checks();

    public static void main(String[] args) {
        CutDetectMember c = busy();
        int[] before = Checks.snapshot(c);
        statuses(c);
        configurations(c);
        reportsAndVotes(c);
        rounds(c);
        wrongIds(c);
        CHECKS.due("no getter changes anything", Arrays.equals(before, Checks.snapshot(c)), true);
        CHECKS.end();
    }

    /** 0, 3 and 7 are one configuration ahead, 0 in a round of its own; 1 has voted; 2 is crashed. */
    private static CutDetectMember busy() {
        CutDetectMember c = new CutDetectMember(5, 2, 1, 1);
        int o = Drive.alert(c, 0, 7);
        Drive.must(c.crash(2), "crash(2)");
        Drive.must(c.crash(11), "crash(11)");
        Drive.give(c, CutDetectMember.ALERT, o, 0, 1, 3, 4);
        for (int q : new int[] {0, 1, 3, 4}) {
            Drive.give(c, CutDetectMember.VOTE, q, 0, 3);
        }
        Drive.give(c, CutDetectMember.VOTE, 3, 1);
        Drive.give(c, CutDetectMember.WELCOME, 0, 7);
        Drive.dropAll(c);
        Drive.castVotes(c, 4, 3, 7);
        Drive.must(c.fallback(0), "fallback(0)");
        Drive.give(c, CutDetectMember.PREPARE, 0, 0, 3, 7);
        Drive.give(c, CutDetectMember.PROMISE, 3, 0);
        Drive.give(c, CutDetectMember.PROMISE, 7, 0);
        Drive.dropAll(c);
        return c;
    }

    private static void statuses(CutDetectMember c) {
        int[] due = {1, 1, 3, 1, 1, 2, 2, 1, 2, 2, 2, 3, 2, 2, 2, 2};
        for (int p = 0; p < 16; p++) {
            CHECKS.due("status(" + p + ")", c.status(p), due[p]);
        }
    }

    private static void configurations(CutDetectMember c) {
        for (int p = 0; p < 16; p++) {
            boolean ahead = p == 0 || p == 3 || p == 7;
            CHECKS.due("configOf(" + p + ")", c.configOf(p), ahead ? 1 : 0);
            CHECKS.due("membersOf(" + p + ")", c.membersOf(p), ahead ? 159 : 31);
            CHECKS.due("lastCut(" + p + ")", c.lastCut(p), ahead ? 128 : 0);
        }
    }

    private static void reportsAndVotes(CutDetectMember c) {
        for (int p = 0; p < 16; p++) {
            int vote = p == 1 || p == 4 ? 128 : p == 3 || p == 7 ? 16 : -1;
            CHECKS.due("proposalOf(" + p + ")", c.proposalOf(p), vote);
            for (int q = 0; q < 16; q++) {
                boolean reported = q == 7 && vote == 128 || q == 4 && vote == 16;
                CHECKS.due("reportCount(" + p + ", " + q + ")", c.reportCount(p, q), reported ? 1 : 0);
                CHECKS.due("voteOf(" + p + ", " + q + ")", c.voteOf(p, q), p == 1 && q == 3 ? 128 : -1);
            }
        }
        CutDetectMember three = new CutDetectMember(3, 6, 6, 6);
        Drive.must(three.observe(2, 0), "observe(2, 0)");
        Drive.give(three, CutDetectMember.ALERT, 2, 1);
        CHECKS.due("rings 3, 4 and 5 are three reports", three.reportCount(1, 0), 3);
    }

    private static void rounds(CutDetectMember c) {
        rounds(c, 0, 16, -1, 0, 16, 1, 0, 0, 2);
        rounds(c, 1, 0, 0, 128, 0, 0, 0, 0, 0);
        rounds(c, 2, 0, -1, 0, 0, 0, 0, 0, 0);
        rounds(c, 3, 16, 0, 16, 0, 0, 0, 0, 0);
        rounds(c, 7, 16, 0, 16, 0, 0, 0, 0, 0);
        rounds(c, 15, 0, -1, 0, 0, 0, 0, 0, 0);

        CutDetectMember learner = new CutDetectMember(5, 2, 1, 1);
        Drive.castVotes(learner, 4, 0, 1, 2, 3, 4);
        Drive.must(learner.fallback(3), "fallback(3)");
        Drive.give(learner, CutDetectMember.PREPARE, 3, 0, 1, 2);
        for (int q = 0; q < 3; q++) {
            Drive.give(learner, CutDetectMember.PROMISE, q, 3);
        }
        Drive.give(learner, CutDetectMember.ACCEPT, 3, 0, 1);
        Drive.give(learner, CutDetectMember.ACCEPTED, 0, 3);
        Drive.give(learner, CutDetectMember.ACCEPTED, 1, 3);
        rounds(learner, 3, 0, 0, 16, 19, 2, 19, 2, 3);
        rounds(learner, 0, 19, 19, 16, 0, 0, 0, 0, 0);
        rounds(learner, 2, 19, 0, 16, 0, 0, 0, 0, 0);
    }

    private static void rounds(CutDetectMember c, int p, int... due) {
        for (int f = 0; f < 8; f++) {
            CHECKS.due("paxos(" + p + ", " + f + ")", c.paxos(p, f), due[f]);
        }
    }

    private static void wrongIds(CutDetectMember c) {
        for (int wrong : Checks.WRONG_IDS) {
            CHECKS.due("status(" + wrong + ")", c.status(wrong), CutDetectMember.ST_NONE);
            CHECKS.due("configOf(" + wrong + ")", c.configOf(wrong), 0);
            CHECKS.due("membersOf(" + wrong + ")", c.membersOf(wrong), 0);
            CHECKS.due("lastCut(" + wrong + ")", c.lastCut(wrong), 0);
            CHECKS.due("proposalOf(" + wrong + ")", c.proposalOf(wrong), -1);
            for (int p = -1; p <= 16; p++) {
                CHECKS.due("reportCount(" + wrong + ", " + p + ")", c.reportCount(wrong, p), 0);
                CHECKS.due("reportCount(" + p + ", " + wrong + ")", c.reportCount(p, wrong), 0);
                CHECKS.due("voteOf(" + wrong + ", " + p + ")", c.voteOf(wrong, p), -1);
                CHECKS.due("voteOf(" + p + ", " + wrong + ")", c.voteOf(p, wrong), -1);
            }
            for (int f = -1; f <= 8; f++) {
                CHECKS.due("paxos(" + wrong + ", " + f + ")", c.paxos(wrong, f), 0);
            }
        }
        for (int f : new int[] {-1, 8, 9, -8, Integer.MIN_VALUE, Integer.MAX_VALUE}) {
            for (int p = -1; p <= 16; p++) {
                CHECKS.due("paxos(" + p + ", " + f + ")", c.paxos(p, f), 0);
            }
        }
    }
}
