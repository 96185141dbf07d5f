/** Promise 5: ALERT. */
public final class DeliverAlertTest {
    private static final Checks CHECKS = new Checks();

    public static void main(String[] args) {
        reportsAreUnited();
        sameReportAgain();
        belowTheHighWatermark();
        atTheHighWatermark();
        aboveTheHighWatermark();
        nothingStable();
        oneUnstable();
        unstableOnesOfEveryId();
        belowTheLowWatermark();
        atTheLowWatermark();
        lowEqualToHigh();
        allStableAtOnce();
        everySubject();
        votedAlready();
        promisedAlready();
        acceptedAlready();
        ownRoundIsNoPromise();
        voteToTheOwnMembers();
        CHECKS.end();
    }

    /** Sends an alert by o about s that p alone has yet to receive. */
    private static int alertTo(CutDetectMember c, int p, int o, int s) {
        Drive.must(c.observe(o, s), "observe(" + o + ", " + s + ")");
        int slot = Drive.find(c, CutDetectMember.ALERT, o);
        Drive.dropForOthers(c, slot, p);
        return slot;
    }

    private static void hear(CutDetectMember c, int p, int o, int s) {
        Drive.must(c.deliver(alertTo(c, p, o, s), p), "deliver");
    }

    /** The alert is counted, and p neither proposes nor sends anything. */
    private static void counted(String what, CutDetectMember c, int p, int o, int s, int reports) {
        int[] due = Checks.snapshotOf(c, p);
        due[5 + 2 * s] = reports;
        CHECKS.unanswered(what, c, alertTo(c, p, o, s), p);
        CHECKS.same(what + " changes the reports alone", Checks.snapshotOf(c, p), due);
    }

    /** The alert is counted, and p proposes the cut. */
    private static void proposed(String what, CutDetectMember c, int p, int o, int s, int reports, int cut) {
        int[] due = Checks.snapshotOf(c, p);
        due[4] = cut;
        due[5 + 2 * s] = reports;
        due[Checks.ROUND_CELLS + CutDetectMember.P_ACCRND] = 0;
        due[Checks.ROUND_CELLS + CutDetectMember.P_ACCVAL] = cut;
        int config = c.configOf(p);
        int members = c.membersOf(p);
        int slot = alertTo(c, p, o, s);
        CHECKS.answered(what, c, slot, p, CutDetectMember.VOTE, p, config, cut, 0, 0, members);
        CHECKS.same(what + " changes reports and vote alone", Checks.snapshotOf(c, p), due);
    }

    /** "Set rep(p,x) = rep(p,x) | y." */
    private static void reportsAreUnited() {
        // Of three processes, 1 watches 0 on rings 0, 1 and 2, and 2 watches 0 on the other three.
        CutDetectMember c = new CutDetectMember(3, 6, 6, 6);
        counted("three rings", c, 2, 1, 0, 3);
        CHECKS.due("another subject", c.reportCount(2, 1), 0);
        CHECKS.due("another process", c.reportCount(0, 0), 0);
        proposed("the other three rings", c, 2, 2, 0, 6, 1);
    }

    private static void sameReportAgain() {
        CutDetectMember c = new CutDetectMember(3, 6, 6, 6);
        counted("three rings", c, 2, 1, 0, 3);
        counted("the same rings", c, 2, 1, 0, 3);
        counted("the same rings once more", c, 2, 1, 0, 3);
    }

    /** "count(rep(p,s)) >= H", missed by one. */
    private static void belowTheHighWatermark() {
        CutDetectMember two = new CutDetectMember(5, 2, 2, 2);
        counted("one report, H = 2", two, 3, 0, 4, 1);
        CutDetectMember four = new CutDetectMember(3, 6, 4, 4);
        counted("three reports, H = 4", four, 2, 1, 0, 3);
    }

    /** "count(rep(p,s)) >= H", just reached. */
    private static void atTheHighWatermark() {
        CutDetectMember one = new CutDetectMember(5, 2, 1, 1);
        proposed("one report, H = 1", one, 3, 0, 4, 1, 16);
        CutDetectMember two = new CutDetectMember(5, 2, 2, 1);
        counted("one report, H = 2", two, 3, 0, 4, 1);
        proposed("two reports, H = 2", two, 3, 1, 4, 2, 16);
        CHECKS.due("its own vote is not yet learned", two.voteOf(3, 3), -1);
        CutDetectMember three = new CutDetectMember(3, 6, 3, 1);
        proposed("three reports, H = 3", three, 2, 1, 0, 3, 1);
    }

    private static void aboveTheHighWatermark() {
        CutDetectMember c = new CutDetectMember(3, 6, 2, 1);
        proposed("three reports, H = 2", c, 0, 1, 0, 3, 1);
    }

    /** "If S != 0": nothing is stable, whether something is unstable or not. */
    private static void nothingStable() {
        CutDetectMember quiet = new CutDetectMember(5, 2, 2, 2);
        counted("one report, L = H = 2", quiet, 2, 0, 4, 1);
        counted("one report more", quiet, 2, 4, 3, 1);
        CutDetectMember unstable = new CutDetectMember(5, 2, 2, 1);
        counted("one report, L = 1", unstable, 2, 0, 4, 1);
        counted("one report more", unstable, 2, 4, 3, 1);
    }

    /** "no s in 0..15 has L <= count(rep(p,s)) < H" */
    private static void oneUnstable() {
        // 4 is watched by 0 and 1, and 3 by 4 (ring 0) and 0 (ring 1).
        CutDetectMember c = new CutDetectMember(5, 2, 2, 1);
        counted("3 becomes unstable", c, 2, 4, 3, 1);
        counted("4 becomes unstable", c, 2, 0, 4, 1);
        counted("4 becomes stable, 3 is not", c, 2, 1, 4, 2);
        proposed("both are stable", c, 2, 0, 3, 2, 24);
    }

    /** Whichever is the unstable one of 0..15, below or above the stable one. */
    private static void unstableOnesOfEveryId() {
        for (int unstable = 0; unstable < 16; unstable++) {
            for (int stable = 0; stable < 16; stable++) {
                CutDetectMember c = new CutDetectMember(16, 2, 2, 1);
                boolean apart = c.observer(0, unstable, 0) != c.observer(0, unstable, 1);
                if (stable != unstable && apart && c.observer(0, stable, 0) != c.observer(0, stable, 1)) {
                    counted("unstable " + unstable, c, 8, c.observer(0, unstable, 0), unstable, 1);
                    counted("half of " + stable, c, 8, c.observer(0, stable, 0), stable, 1);
                    counted("stable " + stable, c, 8, c.observer(0, stable, 1), stable, 2);
                    int cut = Drive.mask(stable, unstable);
                    proposed("both", c, 8, c.observer(0, unstable, 1), unstable, 2, cut);
                }
            }
        }
    }

    /** "L <= count(rep(p,s))", missed by one. */
    private static void belowTheLowWatermark() {
        CutDetectMember two = new CutDetectMember(5, 2, 2, 2);
        counted("one report about 3, L = 2", two, 2, 4, 3, 1);
        counted("one report about 4", two, 2, 0, 4, 1);
        proposed("4 is stable, 3 is not waited for", two, 2, 1, 4, 2, 16);
        // Of three processes each alert brings three rings.
        CutDetectMember four = new CutDetectMember(3, 6, 6, 4);
        counted("three reports about 1, L = 4", four, 0, 0, 1, 3);
        counted("three reports about 2", four, 0, 1, 2, 3);
        proposed("2 is stable, 1 is not waited for", four, 0, 0, 2, 6, 4);
    }

    /** "L <= count(rep(p,s))", just reached. */
    private static void atTheLowWatermark() {
        CutDetectMember three = new CutDetectMember(3, 6, 6, 3);
        counted("three reports about 1, L = 3", three, 0, 0, 1, 3);
        counted("three reports about 2", three, 0, 1, 2, 3);
        counted("2 is stable, 1 is waited for", three, 0, 0, 2, 6);
    }

    private static void lowEqualToHigh() {
        CutDetectMember c = new CutDetectMember(3, 6, 3, 3);
        proposed("nothing is ever unstable", c, 1, 1, 0, 3, 1);
    }

    private static void allStableAtOnce() {
        CutDetectMember c = new CutDetectMember(3, 6, 6, 1);
        int[][] alerts = {{1, 0}, {2, 1}, {0, 2}, {2, 0}, {0, 1}};
        for (int[] alert : alerts) {
            hear(c, 0, alert[0], alert[1]);
            CHECKS.due("still one unstable", c.proposalOf(0), -1);
        }
        proposed("all three members", c, 0, 1, 2, 6, 7);
    }

    /** "Let S be the set of s in 0..15", members and others. */
    private static void everySubject() {
        for (int s = 0; s < 16; s++) {
            CutDetectMember c = new CutDetectMember(8, 6, 1, 1);
            int o = c.observer(0, s, 0);
            int rings = 0;
            for (int r = 0; r < 6; r++) {
                rings += c.observer(0, s, r) == o ? 1 : 0;
            }
            proposed("cut of subject " + s, c, 5, o, s, rings, 1 << s);
        }
    }

    /** "if myVote(p) == -1 and promised(p) == 0": it has voted. */
    private static void votedAlready() {
        CutDetectMember c = new CutDetectMember(5, 2, 1, 1);
        proposed("first", c, 2, 0, 4, 1, 16);
        counted("second subject", c, 2, 4, 3, 1);
        counted("first subject again", c, 2, 1, 4, 2);
    }

    /** "if myVote(p) == -1 and promised(p) == 0": it has promised. */
    private static void promisedAlready() {
        CutDetectMember c = new CutDetectMember(5, 2, 1, 1);
        Drive.prepared(c, 1, 2);
        counted("after a promise", c, 2, 0, 4, 1);
        CHECKS.due("proposalOf(2)", c.proposalOf(2), -1);
        CHECKS.due("accRnd(2)", c.paxos(2, CutDetectMember.P_ACCRND), -1);
    }

    /** "if myVote(p) == -1 and promised(p) == 0": it has accepted a classic round. */
    private static void acceptedAlready() {
        CutDetectMember c = new CutDetectMember(5, 2, 1, 1);
        Drive.castVotes(c, 4, 0);
        Drive.acceptSent(c, 0, 0, 1, 2);
        Drive.give(c, CutDetectMember.ACCEPT, 0, 3);
        counted("after an accept", c, 3, 4, 3, 1);
        CHECKS.rounds("accepted", c, 3, 16, 16, 16, 0, 0, 0, 0, 0);
    }

    /** "do BROADCAST(p, VOTE, S, 0, 0)": to the members that p knows of, in its configuration. */
    private static void voteToTheOwnMembers() {
        CutDetectMember c = new CutDetectMember(5, 2, 1, 1);
        Drive.decideFast(c, 2, 0);
        Drive.dropAll(c);
        CHECKS.due("membersOf(0)", c.membersOf(0), 31);
        CHECKS.due("membersOf(2)", c.membersOf(2), 30);
        proposed("one that is ahead", c, 2, 2, 1, 2, 2);
    }

    /** A round that p coordinates, but has not promised itself, does not keep p from voting. */
    private static void ownRoundIsNoPromise() {
        CutDetectMember c = new CutDetectMember(5, 2, 1, 1);
        Drive.prepared(c, 1, 2);
        Drive.promisesTo(c, 1, 2);
        proposed("collecting", c, 1, 0, 4, 1, 16);
        CHECKS.rounds("collecting", c, 1, 0, 0, 16, 17, 1, 0, 0, 1);
    }
}
