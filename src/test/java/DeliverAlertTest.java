/** Promise 5: ALERT. */
public final class DeliverAlertTest {
    private static final Checks CHECKS = new Checks();

    public static void main(String[] args) {
        countsRings();
        proposesAtTheHighWatermark();
        waitsForTheUnstable();
        doesNotWaitBelowTheLowWatermark();
        lowEqualToHighNeverWaits();
        proposesOnce();
        doesNotProposeAfterAPromise();
        doesNotProposeAfterAnAccept();
        everySubjectCounts();
        CHECKS.end();
    }

    /** Lets process p alone hear an alert by o about s. */
    private static void hear(CutDetectMember c, int p, int o, int s) {
        Drive.must(c.observe(o, s), "observe(" + o + ", " + s + ")");
        Drive.give(c, CutDetectMember.ALERT, o, p);
        Drive.dropKind(c, CutDetectMember.ALERT);
    }

    private static void countsRings() {
        CutDetectMember c = new CutDetectMember(3, 6, 6, 6);
        hear(c, 2, 1, 0);
        CHECKS.due("three rings in one alert", c.reportCount(2, 0), 3);
        hear(c, 2, 1, 0);
        CHECKS.due("the same rings count once", c.reportCount(2, 0), 3);
        CHECKS.due("another process has not heard", c.reportCount(0, 0), 0);
        CHECKS.due("another subject", c.reportCount(2, 1), 0);
        CHECKS.due("no proposal yet", c.proposalOf(2), -1);
        hear(c, 2, 2, 0);
        CHECKS.due("all six rings", c.reportCount(2, 0), 6);
        CHECKS.due("proposal", c.proposalOf(2), 1);
    }

    private static void proposesAtTheHighWatermark() {
        CutDetectMember c = new CutDetectMember(5, 2, 2, 1);
        hear(c, 3, 0, 4);
        CHECKS.due("below H", c.proposalOf(3), -1);
        CHECKS.due("nothing accepted", c.paxos(3, CutDetectMember.P_ACCRND), -1);
        CHECKS.due("no vote sent", Drive.usedSlots(c), 0);
        hear(c, 3, 1, 4);
        CHECKS.due("at H", c.proposalOf(3), 16);
        CHECKS.due("accRnd", c.paxos(3, CutDetectMember.P_ACCRND), 0);
        CHECKS.due("accVal", c.paxos(3, CutDetectMember.P_ACCVAL), 16);
        CHECKS.due("promised", c.paxos(3, CutDetectMember.P_PROMISED), 0);
        CHECKS.due("its own vote is not yet learned", c.voteOf(3, 3), -1);
        int slot = Drive.find(c, CutDetectMember.VOTE, 3);
        CHECKS.message("vote", c, slot, CutDetectMember.VOTE, 3, 0, 16, 0, 0, 31);
        CHECKS.due("one message", Drive.usedSlots(c), 1);
    }

    private static void waitsForTheUnstable() {
        // 4 is watched by 0 and 1, and 3 by 4 (ring 0) and 0 (ring 1).
        CutDetectMember c = new CutDetectMember(5, 2, 2, 1);
        hear(c, 2, 4, 3);
        hear(c, 2, 0, 4);
        hear(c, 2, 1, 4);
        CHECKS.due("4 is stable", c.reportCount(2, 4), 2);
        CHECKS.due("3 is unstable", c.reportCount(2, 3), 1);
        CHECKS.due("no proposal", c.proposalOf(2), -1);
        CHECKS.due("no vote sent", Drive.usedSlots(c), 0);
        hear(c, 2, 0, 3);
        CHECKS.due("both at once", c.proposalOf(2), 24);
        CHECKS.due("accVal", c.paxos(2, CutDetectMember.P_ACCVAL), 24);
        int slot = Drive.find(c, CutDetectMember.VOTE, 2);
        CHECKS.message("vote", c, slot, CutDetectMember.VOTE, 2, 0, 24, 0, 0, 31);
    }

    private static void doesNotWaitBelowTheLowWatermark() {
        CutDetectMember c = new CutDetectMember(5, 2, 2, 2);
        hear(c, 2, 4, 3);
        hear(c, 2, 0, 4);
        hear(c, 2, 1, 4);
        CHECKS.due("3 has one report", c.reportCount(2, 3), 1);
        CHECKS.due("only the stable one", c.proposalOf(2), 16);

        // Of three processes each alert brings three rings: with L = 4 that is too few to wait for.
        CutDetectMember below = new CutDetectMember(3, 6, 6, 4);
        hear(below, 0, 0, 1);
        hear(below, 0, 1, 2);
        hear(below, 0, 0, 2);
        CHECKS.due("three reports, L = 4", below.proposalOf(0), 4);
        CutDetectMember at = new CutDetectMember(3, 6, 6, 3);
        hear(at, 0, 0, 1);
        hear(at, 0, 1, 2);
        hear(at, 0, 0, 2);
        CHECKS.due("three reports, L = 3", at.proposalOf(0), -1);
    }

    private static void lowEqualToHighNeverWaits() {
        CutDetectMember c = new CutDetectMember(5, 2, 1, 1);
        hear(c, 2, 4, 3);
        CHECKS.due("proposes at once", c.proposalOf(2), 8);
        CutDetectMember more = new CutDetectMember(3, 6, 2, 1);
        hear(more, 0, 1, 0);
        CHECKS.due("more than H is stable too", more.proposalOf(0), 1);
        CHECKS.due("reports", more.reportCount(0, 0), 3);
    }

    private static void proposesOnce() {
        CutDetectMember c = new CutDetectMember(5, 2, 1, 1);
        hear(c, 2, 0, 4);
        Drive.dropAll(c);
        hear(c, 2, 4, 3);
        CHECKS.due("the second alert counts", c.reportCount(2, 3), 1);
        CHECKS.due("the vote stays", c.proposalOf(2), 16);
        CHECKS.due("accVal stays", c.paxos(2, CutDetectMember.P_ACCVAL), 16);
        CHECKS.due("no second vote", Drive.usedSlots(c), 0);
    }

    private static void doesNotProposeAfterAPromise() {
        CutDetectMember c = new CutDetectMember(5, 2, 1, 1);
        Drive.must(c.fallback(1), "fallback(1)");
        Drive.give(c, CutDetectMember.PREPARE, 1, 2);
        Drive.dropAll(c);
        hear(c, 2, 0, 4);
        CHECKS.due("the alert counts", c.reportCount(2, 4), 1);
        CHECKS.due("no proposal after a promise", c.proposalOf(2), -1);
        CHECKS.due("nothing accepted", c.paxos(2, CutDetectMember.P_ACCRND), -1);
        CHECKS.due("no vote", Drive.usedSlots(c), 0);
        hear(c, 1, 0, 4);
        CHECKS.due("its own round alone is no promise", c.proposalOf(1), 16);
    }

    private static void doesNotProposeAfterAnAccept() {
        CutDetectMember c = new CutDetectMember(5, 2, 1, 1);
        Drive.castVotes(c, 4, 0);
        Drive.must(c.fallback(0), "fallback(0)");
        Drive.give(c, CutDetectMember.PREPARE, 0, 0, 1, 2);
        for (int q = 0; q < 3; q++) {
            Drive.give(c, CutDetectMember.PROMISE, q, 0);
        }
        Drive.give(c, CutDetectMember.ACCEPT, 0, 3);
        Drive.dropAll(c);
        hear(c, 3, 4, 3);
        CHECKS.due("no proposal after an accept", c.proposalOf(3), -1);
        CHECKS.due("accRnd stays", c.paxos(3, CutDetectMember.P_ACCRND), 16);
        CHECKS.due("accVal stays", c.paxos(3, CutDetectMember.P_ACCVAL), 16);
    }

    private static void everySubjectCounts() {
        for (int s = 0; s < 16; s++) {
            CutDetectMember c = new CutDetectMember(8, 2, 1, 1);
            int o = c.observer(0, s, 0);
            hear(c, 5, o, s);
            CHECKS.due("cut of subject " + s, c.proposalOf(5), 1 << s);
            for (int other = 0; other < 16; other++) {
                boolean reported = c.reportCount(5, other) > 0;
                CHECKS.due("reports about " + other + " of an alert about " + s, reported, other == s);
            }
        }
    }
}
