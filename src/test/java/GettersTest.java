/** Promises 8 to 14 and 16: what a process can be asked for, and what wrong arguments answer. */
public final class GettersTest {
    private static final Checks CHECKS = new Checks();
    private static final int[] WRONG_SELECTORS = {-1, 8, 9, -8, 16, Integer.MIN_VALUE, Integer.MAX_VALUE};

    public static void main(String[] args) {
        CutDetectMember c = busy();
        int[] before = Checks.snapshot(c);
        statusOfAll(c);
        statusOfNone(c);
        configOf(c);
        membersOf(c);
        lastCut(c);
        reportCount(c);
        proposalOf(c);
        voteOf(c);
        paxos(c);
        wrongSelectors(c);
        CHECKS.same("no getter changes anything", Checks.snapshot(c), before);
        countsOfRings();
        everySelector();
        edgesOfTheIds();
        CHECKS.end();
    }

    /** 0, 3 and 7 are one configuration ahead, 0 in a round of its own; 1 and 4 have voted; 2 is crashed. */
    private static CutDetectMember busy() {
        CutDetectMember c = new CutDetectMember(5, 2, 1, 1);
        int o = Drive.alert(c, 0, 7);
        Drive.must(c.crash(2) && c.crash(11), "crash");
        Drive.give(c, CutDetectMember.ALERT, o, 0, 1, 3, 4);
        for (int q : new int[] {0, 1, 3, 4}) {
            Drive.give(c, CutDetectMember.VOTE, q, 0, 3);
        }
        Drive.give(c, CutDetectMember.VOTE, 3, 1);
        Drive.give(c, CutDetectMember.WELCOME, 0, 7);
        Drive.dropAll(c);
        Drive.castVotes(c, 4, 3, 7);
        Drive.prepared(c, 0, 0, 3, 7);
        Drive.promisesTo(c, 0, 3, 7);
        Drive.dropAll(c);
        return c;
    }

    private static boolean ahead(int p) {
        return p == 0 || p == 3 || p == 7;
    }

    /** "answers ST_CRASHED if crashed(p); otherwise ST_MEMBER if p is in mem(p); otherwise ST_OUT." */
    private static void statusOfAll(CutDetectMember c) {
        int[] due = {1, 1, 3, 1, 1, 2, 2, 1, 2, 2, 2, 3, 2, 2, 2, 2};
        for (int p = 0; p < 16; p++) {
            CHECKS.due("status(" + p + ")", c.status(p), due[p]);
        }
    }

    /** "It answers ST_NONE if p is not in 0..15." */
    private static void statusOfNone(CutDetectMember c) {
        for (int wrong : Checks.WRONG_IDS) {
            CHECKS.due("status(" + wrong + ")", c.status(wrong), CutDetectMember.ST_NONE);
        }
    }

    /** "`configOf(p)` answers cfg(p), or 0 if p is not in 0..15." */
    private static void configOf(CutDetectMember c) {
        for (int p = 0; p < 16; p++) {
            CHECKS.due("configOf(" + p + ")", c.configOf(p), ahead(p) ? 1 : 0);
        }
        for (int wrong : Checks.WRONG_IDS) {
            CHECKS.due("configOf(" + wrong + ")", c.configOf(wrong), 0);
        }
    }

    /** "`membersOf(p)` answers mem(p), or 0 if p is not in 0..15." */
    private static void membersOf(CutDetectMember c) {
        for (int p = 0; p < 16; p++) {
            CHECKS.due("membersOf(" + p + ")", c.membersOf(p), ahead(p) ? 159 : 31);
        }
        for (int wrong : Checks.WRONG_IDS) {
            CHECKS.due("membersOf(" + wrong + ")", c.membersOf(wrong), 0);
        }
    }

    /** "`lastCut(p)` answers lastCut(p), or 0 if p is not in 0..15." */
    private static void lastCut(CutDetectMember c) {
        for (int p = 0; p < 16; p++) {
            CHECKS.due("lastCut(" + p + ")", c.lastCut(p), ahead(p) ? 128 : 0);
        }
        for (int wrong : Checks.WRONG_IDS) {
            CHECKS.due("lastCut(" + wrong + ")", c.lastCut(wrong), 0);
        }
    }

    /** "`reportCount(p, s)` answers count(rep(p,s)), or 0 if p or s is not in 0..15." */
    private static void reportCount(CutDetectMember c) {
        for (int p = 0; p < 16; p++) {
            for (int s = 0; s < 16; s++) {
                boolean old = s == 7 && (p == 1 || p == 4);
                boolean newer = s == 4 && (p == 3 || p == 7);
                CHECKS.due("reportCount(" + p + ", " + s + ")", c.reportCount(p, s), old || newer ? 1 : 0);
            }
        }
        for (int wrong : Checks.WRONG_IDS) {
            for (int p = -1; p <= 16; p++) {
                CHECKS.due("reportCount(" + wrong + ", " + p + ")", c.reportCount(wrong, p), 0);
                CHECKS.due("reportCount(" + p + ", " + wrong + ")", c.reportCount(p, wrong), 0);
            }
        }
    }

    /** "`proposalOf(p)` answers myVote(p), or -1 if p is not in 0..15." */
    private static void proposalOf(CutDetectMember c) {
        for (int p = 0; p < 16; p++) {
            int vote = p == 1 || p == 4 ? 128 : p == 3 || p == 7 ? 16 : -1;
            CHECKS.due("proposalOf(" + p + ")", c.proposalOf(p), vote);
        }
        for (int wrong : Checks.WRONG_IDS) {
            CHECKS.due("proposalOf(" + wrong + ")", c.proposalOf(wrong), -1);
        }
    }

    /** "`voteOf(p, q)` answers vote(p,q), or -1 if p or q is not in 0..15." */
    private static void voteOf(CutDetectMember c) {
        for (int p = 0; p < 16; p++) {
            for (int q = 0; q < 16; q++) {
                CHECKS.due("voteOf(" + p + ", " + q + ")", c.voteOf(p, q), p == 1 && q == 3 ? 128 : -1);
            }
        }
        for (int wrong : Checks.WRONG_IDS) {
            for (int p = -1; p <= 16; p++) {
                CHECKS.due("voteOf(" + wrong + ", " + p + ")", c.voteOf(wrong, p), -1);
                CHECKS.due("voteOf(" + p + ", " + wrong + ")", c.voteOf(p, wrong), -1);
            }
        }
    }

    /** "It answers 0 if p is not in 0..15" */
    private static void paxos(CutDetectMember c) {
        CHECKS.rounds("collecting", c, 0, 16, -1, 0, 16, 1, 0, 0, 2);
        CHECKS.rounds("voted", c, 1, 0, 0, 128, 0, 0, 0, 0, 0);
        CHECKS.rounds("crashed", c, 2, 0, -1, 0, 0, 0, 0, 0, 0);
        CHECKS.rounds("promised", c, 3, 16, 0, 16, 0, 0, 0, 0, 0);
        CHECKS.rounds("promised", c, 7, 16, 0, 16, 0, 0, 0, 0, 0);
        CHECKS.rounds("out", c, 15, 0, -1, 0, 0, 0, 0, 0, 0);
        for (int wrong : Checks.WRONG_IDS) {
            for (int f = -1; f <= 8; f++) {
                CHECKS.due("paxos(" + wrong + ", " + f + ")", c.paxos(wrong, f), 0);
            }
        }
    }

    /** "or f is not in 0..7." */
    private static void wrongSelectors(CutDetectMember c) {
        for (int f : WRONG_SELECTORS) {
            for (int p = -1; p <= 16; p++) {
                CHECKS.due("paxos(" + p + ", " + f + ")", c.paxos(p, f), 0);
            }
        }
    }

    private static void countsOfRings() {
        CutDetectMember c = new CutDetectMember(3, 6, 6, 6);
        CHECKS.due("none", c.reportCount(1, 0), 0);
        Drive.must(c.observe(2, 0) && c.deliver(0, 1), "an alert");
        CHECKS.due("rings 3, 4 and 5 are three reports", c.reportCount(1, 0), 3);
        Drive.must(c.observe(1, 0), "observe(1, 0)");
        Drive.give(c, CutDetectMember.ALERT, 1, 1);
        CHECKS.due("all six rings", c.reportCount(1, 0), 6);
    }

    /** "`paxos(p, f)` answers, by f": all eight of a process that has something to tell of each. */
    private static void everySelector() {
        CutDetectMember c = new CutDetectMember(7, 2, 1, 1);
        Drive.castVotes(c, 6, Drive.range(0, 7));
        Drive.acceptSent(c, 1, 0, 1, 2, 3);
        Drive.give(c, CutDetectMember.ACCEPT, 1, 0, 2, 4);
        Drive.give(c, CutDetectMember.ACCEPTED, 0, 4);
        Drive.give(c, CutDetectMember.ACCEPTED, 2, 4);
        Drive.prepared(c, 4, 1, 2, 3);
        Drive.promisesTo(c, 4, 1, 2, 3);
        CHECKS.rounds("all differ from fresh", c, 4, 17, 17, 64, 36, 1, 17, 2, 3);
        Drive.must(c.fallback(0), "fallback(0)");
        Drive.must(c.deliver(Drive.find(c, CutDetectMember.PREPARE, 0), 4), "a prepare to 4");
        CHECKS.rounds("promised alone changes", c, 4, 32, 17, 64, 36, 1, 17, 2, 3);
    }

    /** The edges of 0..15 and of the pairs of them: what the last says is not taken for the first of the next. */
    private static void edgesOfTheIds() {
        CutDetectMember c = new CutDetectMember(16, 2, 1, 1);
        for (int s : new int[] {0, 15}) {
            int o = Drive.alert(c, 0, s);
            Drive.give(c, CutDetectMember.ALERT, o, 0, 15);
            Drive.dropKind(c, CutDetectMember.ALERT);
        }
        for (int q : new int[] {0, 15}) {
            Drive.give(c, CutDetectMember.VOTE, q, 0, 15);
        }
        for (int p : new int[] {0, 15}) {
            CHECKS.due("status(" + p + ")", c.status(p), CutDetectMember.ST_MEMBER);
            CHECKS.due("proposalOf(" + p + ")", c.proposalOf(p), 1);
            for (int q : new int[] {0, 15}) {
                CHECKS.due("reportCount(" + p + ", " + q + ")", c.reportCount(p, q), 1);
                CHECKS.due("voteOf(" + p + ", " + q + ")", c.voteOf(p, q), 1);
            }
            for (int wrong : Checks.WRONG_IDS) {
                CHECKS.due("reportCount(" + p + ", " + wrong + ")", c.reportCount(p, wrong), 0);
                CHECKS.due("reportCount(" + wrong + ", " + p + ")", c.reportCount(wrong, p), 0);
                CHECKS.due("voteOf(" + p + ", " + wrong + ")", c.voteOf(p, wrong), -1);
                CHECKS.due("voteOf(" + wrong + ", " + p + ")", c.voteOf(wrong, p), -1);
            }
        }
        for (int p : new int[] {1, 14}) {
            for (int wrong : Checks.WRONG_IDS) {
                CHECKS.due("reportCount(" + p + ", " + wrong + ")", c.reportCount(p, wrong), 0);
                CHECKS.due("voteOf(" + p + ", " + wrong + ")", c.voteOf(p, wrong), -1);
            }
        }
    }
}
