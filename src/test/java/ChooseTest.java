/** Promise 5: the cases (a) to (e) of CHOOSE. */
public final class ChooseTest {
    private static final Checks CHECKS = new Checks();
    /** CQ and T for 1..16 members, worked out by hand. */
    private static final int[] CLASSIC_QUORUM = {1, 2, 2, 3, 3, 4, 4, 5, 5, 6, 6, 7, 7, 8, 8, 9};
    private static final int[] FAST_SHARE = {1, 2, 2, 2, 2, 3, 3, 3, 3, 4, 4, 4, 4, 5, 5, 5};

    public static void main(String[] args) {
        classicOfTheLeastRound();
        classicBeatsFastVotes();
        greatestRoundOfTheGreaterProcess();
        greatestRoundOfTheLesserProcess();
        allOfOneRound();
        classicOfTheLastProcess();
        promisesOfAnEarlierRound();
        for (int m = 1; m <= 16; m++) {
            fastShareReached(m, CLASSIC_QUORUM[m - 1], FAST_SHARE[m - 1]);
            fastShareMissed(m, CLASSIC_QUORUM[m - 1], FAST_SHARE[m - 1]);
        }
        moreThanTheFastShare();
        fastShareWithTheLastProcess();
        fastShareNotNextToEachOther();
        fastShareBeatsTheOwnVote();
        leastFastVoter();
        leastFastVoterBeatsTheOwnVote();
        onlyTheLastHasVoted();
        ownVote();
        nothingToChoose();
        quorumOfTheNewMembers();
        CHECKS.end();
    }

    /** The last promise makes p send its accept with this value, and changes nothing else of p. */
    private static void chosen(String what, CutDetectMember c, int p, int last, int value) {
        int[] due = Checks.snapshotOf(c, p);
        due[Checks.ROUND_CELLS + CutDetectMember.P_PHASE] = 2;
        due[Checks.ROUND_CELLS + CutDetectMember.P_PCOUNT]++;
        int round = c.paxos(p, CutDetectMember.P_CRND);
        int slot = Drive.find(c, CutDetectMember.PROMISE, last, 1 << p);
        int[] accept = {CutDetectMember.ACCEPT, p, c.configOf(p), round, value, 0, c.membersOf(p)};
        CHECKS.answered(what, c, slot, p, accept);
        CHECKS.same(what + " changes phase and promises alone", Checks.snapshotOf(c, p), due);
    }

    /** "(a) Some pr >= 16": it is 16. */
    private static void classicOfTheLeastRound() {
        CutDetectMember c = new CutDetectMember(5, 2, 1, 1);
        Drive.castVotes(c, 3, 0);
        Drive.acceptSent(c, 0, 0, 1, 2);
        Drive.give(c, CutDetectMember.ACCEPT, 0, 4);
        CHECKS.due("accRnd(4)", c.paxos(4, CutDetectMember.P_ACCRND), 16);
        Drive.castVotes(c, 4, 3);
        Drive.prepared(c, 3, 2, 3, 4);
        Drive.promisesTo(c, 3, 2, 3);
        chosen("round 16 against a vote", c, 3, 4, 8);
    }

    /** "taking the first case that holds": (a) before (b). */
    private static void classicBeatsFastVotes() {
        CutDetectMember c = new CutDetectMember(5, 2, 1, 1);
        Drive.castVotes(c, 3, 0);
        Drive.castVotes(c, 4, 1, 2);
        Drive.acceptSent(c, 0, 0, 3, 4);
        Drive.give(c, CutDetectMember.ACCEPT, 0, 3);
        Drive.prepared(c, 4, 1, 2, 3);
        Drive.promisesTo(c, 4, 3, 1);
        chosen("one classic value against two alike votes", c, 4, 2, 8);
    }

    /** "v is the pv of the least q among those with the greatest pr": round 36 of 3 against round 16 of 1. */
    private static void greatestRoundOfTheGreaterProcess() {
        for (int[] order : new int[][] {{1, 2, 3}, {3, 2, 1}, {2, 3, 1}}) {
            CutDetectMember c = new CutDetectMember(5, 2, 1, 1);
            Drive.castVotes(c, 3, 0);
            Drive.acceptSent(c, 0, 0, 1, 2);
            Drive.give(c, CutDetectMember.ACCEPT, 0, 1);
            Drive.castVotes(c, 4, 4);
            Drive.must(c.fallback(4), "fallback(4)");
            Drive.dropKind(c, CutDetectMember.PREPARE);
            Drive.acceptSent(c, 4, 2, 3, 4);
            Drive.give(c, CutDetectMember.ACCEPT, 4, 3);
            CHECKS.rounds("1", c, 1, 16, 16, 8, 0, 0, 0, 0, 0);
            CHECKS.rounds("3", c, 3, 36, 36, 16, 0, 0, 0, 0, 0);
            Drive.prepared(c, 2, order);
            Drive.promisesTo(c, 2, order[0], order[1]);
            chosen("of 3", c, 2, order[2], 16);
        }
    }

    /** "the greatest pr": round 32 of 0 against round 20 of 3. */
    private static void greatestRoundOfTheLesserProcess() {
        for (int[] order : new int[][] {{0, 2, 3}, {3, 2, 0}, {2, 3, 0}}) {
            CutDetectMember c = new CutDetectMember(5, 2, 1, 1);
            Drive.castVotes(c, 3, 4);
            Drive.acceptSent(c, 4, 2, 3, 4);
            Drive.give(c, CutDetectMember.ACCEPT, 4, 3);
            Drive.castVotes(c, 4, 0);
            Drive.must(c.fallback(0), "fallback(0)");
            Drive.dropKind(c, CutDetectMember.PREPARE);
            Drive.acceptSent(c, 0, 0, 1, 2);
            Drive.give(c, CutDetectMember.ACCEPT, 0, 0);
            CHECKS.rounds("3", c, 3, 20, 20, 8, 0, 0, 0, 0, 0);
            CHECKS.rounds("0", c, 0, 32, 32, 16, 32, 2, 0, 0, 3);
            Drive.prepared(c, 2, order);
            Drive.promisesTo(c, 2, order[0], order[1]);
            chosen("of 0", c, 2, order[2], 16);
        }
    }

    private static void allOfOneRound() {
        CutDetectMember c = new CutDetectMember(5, 2, 1, 1);
        Drive.castVotes(c, 3, 0);
        Drive.castVotes(c, 4, 1, 2);
        Drive.acceptSent(c, 0, 0, 3, 4);
        Drive.give(c, CutDetectMember.ACCEPT, 0, 0, 1, 2);
        Drive.prepared(c, 1, 0, 1, 2);
        Drive.promisesTo(c, 1, 2, 0);
        chosen("all have accepted round 16", c, 1, 1, 8);
    }

    private static void classicOfTheLastProcess() {
        CutDetectMember c = new CutDetectMember(16, 2, 1, 1);
        Drive.castVotes(c, 3, 0);
        Drive.acceptSent(c, 0, Drive.range(0, 9));
        Drive.give(c, CutDetectMember.ACCEPT, 0, 15);
        Drive.prepared(c, 9, Drive.range(7, 16));
        Drive.promisesTo(c, 9, Drive.range(8, 16));
        chosen("accepted by 15 alone", c, 9, 7, 8);
    }

    /** "CHOOSE over the q in prom(p)": what was recorded for an earlier round is over. */
    private static void promisesOfAnEarlierRound() {
        CutDetectMember c = new CutDetectMember(5, 2, 1, 1);
        Drive.castVotes(c, 3, 0);
        Drive.acceptSent(c, 0, 0, 1, 2);
        Drive.give(c, CutDetectMember.ACCEPT, 0, 1);
        Drive.prepared(c, 2, 1);
        Drive.promisesTo(c, 2, 1);
        Drive.castVotes(c, 4, 4);
        Drive.prepared(c, 2, 2, 3, 4);
        Drive.promisesTo(c, 2, 2, 3);
        chosen("the vote of 4, not what 1 has accepted", c, 2, 4, 16);
    }

    /** Process 0 has voted for one cut, and the `alike` processes after it for another. */
    private static CutDetectMember votedApart(int m, int quorum, int alike) {
        CutDetectMember c = Drive.members(m);
        Drive.castVotes(c, m - 1, 0);
        if (alike > 0) {
            Drive.castVotes(c, m - 2, Drive.range(1, alike + 1));
        }
        Drive.dropAll(c);
        Drive.prepared(c, m - 1, Drive.range(0, quorum));
        Drive.promisesTo(c, m - 1, Drive.range(0, quorum - 1));
        return c;
    }

    /** "(b) Otherwise, some w has at least T of the q with pr == 0 and pv == w": T reached. */
    private static void fastShareReached(int m, int quorum, int share) {
        if (share < quorum) {
            CutDetectMember c = votedApart(m, quorum, share);
            chosen(m + " members, T alike", c, m - 1, quorum - 1, 1 << m - 2);
            return;
        }
        // T is CQ, so that all who promise are alike.
        CutDetectMember c = Drive.members(m);
        Drive.castVotes(c, 15, Drive.range(0, quorum));
        Drive.dropAll(c);
        Drive.prepared(c, m - 1, Drive.range(0, quorum));
        Drive.promisesTo(c, m - 1, Drive.range(0, quorum - 1));
        chosen(m + " members, all alike", c, m - 1, quorum - 1, 0x8000);
    }

    /** "(b)", missed by one, so that (c) holds. */
    private static void fastShareMissed(int m, int quorum, int share) {
        if (m > 1) {
            CutDetectMember c = votedApart(m, quorum, share - 1);
            chosen(m + " members, T - 1 alike", c, m - 1, quorum - 1, 1 << m - 1);
        }
    }

    /** "at least T": T is 5 of sixteen members, and all but one of CQ are alike. */
    private static void moreThanTheFastShare() {
        CutDetectMember c = new CutDetectMember(16, 2, 1, 1);
        Drive.castVotes(c, 4, 0);
        Drive.castVotes(c, 5, Drive.range(1, 9));
        Drive.dropAll(c);
        Drive.prepared(c, 9, Drive.range(0, 9));
        Drive.promisesTo(c, 9, Drive.range(0, 8));
        chosen("eight alike", c, 9, 8, 32);
    }

    private static void fastShareWithTheLastProcess() {
        CutDetectMember c = new CutDetectMember(16, 2, 1, 1);
        Drive.castVotes(c, 4, 7);
        Drive.castVotes(c, 5, Drive.range(11, 16));
        Drive.dropAll(c);
        Drive.prepared(c, 9, Drive.range(7, 16));
        Drive.promisesTo(c, 9, Drive.range(8, 16));
        chosen("five alike, 15 among them", c, 9, 7, 32);
    }

    private static void fastShareNotNextToEachOther() {
        // T is 2 of five members, and 3 of six.
        CutDetectMember five = new CutDetectMember(5, 2, 1, 1);
        Drive.castVotes(five, 4, 0, 2);
        Drive.castVotes(five, 3, 1, 3);
        Drive.prepared(five, 3, 0, 1, 2);
        Drive.promisesTo(five, 3, 2, 1);
        chosen("two alike around another", five, 3, 0, 16);
        CutDetectMember six = new CutDetectMember(6, 2, 1, 1);
        Drive.castVotes(six, 4, 1);
        Drive.castVotes(six, 5, 0, 2, 3);
        Drive.prepared(six, 3, 0, 1, 2, 3);
        Drive.promisesTo(six, 3, 1, 2, 3);
        chosen("three alike of four", six, 3, 0, 32);
    }

    private static void fastShareBeatsTheOwnVote() {
        CutDetectMember c = new CutDetectMember(5, 2, 1, 1);
        Drive.castVotes(c, 4, 3, 4);
        Drive.castVotes(c, 3, 0);
        Drive.prepared(c, 0, 0, 3, 4);
        Drive.promisesTo(c, 0, 0, 4);
        chosen("two others alike", c, 0, 3, 16);
    }

    /** "(c) Otherwise, some pr == 0: v is the pv of the least q with pr == 0." */
    private static void leastFastVoter() {
        for (int[] order : new int[][] {{1, 2, 3}, {3, 2, 1}, {3, 1, 2}}) {
            CutDetectMember c = new CutDetectMember(5, 2, 1, 1);
            Drive.castVotes(c, 4, 1);
            Drive.castVotes(c, 3, 3);
            Drive.prepared(c, 0, order);
            Drive.promisesTo(c, 0, order[0], order[1]);
            chosen("one vote each: that of 1", c, 0, order[2], 16);
        }
    }

    /** "taking the first case that holds": (c) before (d). */
    private static void leastFastVoterBeatsTheOwnVote() {
        CutDetectMember c = new CutDetectMember(5, 2, 1, 1);
        Drive.castVotes(c, 4, 3);
        Drive.castVotes(c, 0, 0);
        Drive.prepared(c, 0, 1, 2, 3);
        Drive.promisesTo(c, 0, 1, 2);
        chosen("the vote of 3, not of 0 itself", c, 0, 3, 16);
    }

    private static void onlyTheLastHasVoted() {
        CutDetectMember c = new CutDetectMember(16, 2, 1, 1);
        Drive.castVotes(c, 4, 15);
        Drive.prepared(c, 6, Drive.range(7, 16));
        Drive.promisesTo(c, 6, Drive.range(8, 16));
        chosen("the vote of 15", c, 6, 7, 16);
    }

    /** "(d) Otherwise, if myVote(p) != -1: v = myVote(p)." */
    private static void ownVote() {
        for (int p = 0; p < 5; p++) {
            CutDetectMember c = new CutDetectMember(5, 2, 1, 1);
            Drive.castVotes(c, 4, p);
            Drive.castVotes(c, 3, (p + 4) % 5);
            Drive.prepared(c, p, (p + 1) % 5, (p + 2) % 5, (p + 3) % 5);
            Drive.promisesTo(c, p, (p + 1) % 5, (p + 2) % 5);
            chosen("no promiser has voted", c, p, (p + 3) % 5, 16);
        }
    }

    /** "(e) Otherwise set phase(p) = 0 and stop." */
    private static void nothingToChoose() {
        for (int p = 0; p < 5; p++) {
            CutDetectMember c = new CutDetectMember(5, 2, 1, 1);
            Drive.castVotes(c, 3, (p + 4) % 5);
            Drive.prepared(c, p, p, (p + 1) % 5, (p + 2) % 5);
            Drive.promisesTo(c, p, p, (p + 1) % 5);
            CHECKS.unanswered("third promise", c, Drive.find(c, CutDetectMember.PROMISE, (p + 2) % 5), p);
            CHECKS.rounds("idle", c, p, 16 + p, -1, 0, 16 + p, 0, 0, 0, 3);
        }
    }

    /** "Quorums are always those of p at the moment of the rule.": T is 3 of six members, and 2 of five. */
    private static void quorumOfTheNewMembers() {
        CutDetectMember c = Drive.ahead(6, 5, 1, 2, 3);
        Drive.castVotes(c, 1, 1);
        Drive.castVotes(c, 2, 2, 3);
        Drive.dropAll(c);
        Drive.prepared(c, 3, 1, 2, 3);
        Drive.promisesTo(c, 3, 1, 2);
        chosen("two alike of three", c, 3, 3, 4);
    }
}
