/** Promise 5: VOTE. */
public final class DeliverVoteTest {
    private static final Checks CHECKS = new Checks();
    /** FQ for 1..16 members, worked out by hand. */
    private static final int[] FAST_QUORUM = {1, 2, 3, 3, 4, 5, 6, 6, 7, 8, 9, 9, 10, 11, 12, 12};

    public static void main(String[] args) {
        for (int m = 1; m <= 16; m++) {
            fastQuorum(m, FAST_QUORUM[m - 1]);
        }
        voteIsLearned();
        differentCutsDoNotAddUp();
        lateVoteForTheOtherCut();
        votesOfTheLastProcesses();
        deciderNeedNotVote();
        promiseDoesNotMatter();
        quorumOfTheNewMembers();
        oldQuorumOfOneBehind();
        CHECKS.end();
    }

    /** The vote of q is learned by p, and nothing else comes of it. */
    private static void learned(String what, CutDetectMember c, int p, int q, int cut) {
        int[] due = Checks.snapshotOf(c, p);
        due[6 + 2 * q] = cut;
        CHECKS.unanswered(what, c, Drive.find(c, CutDetectMember.VOTE, q, 1 << p), p);
        CHECKS.same(what + " changes that vote alone", Checks.snapshotOf(c, p), due);
    }

    /** "FQ = (3*m+3)/4": missed by one, and reached. */
    private static void fastQuorum(int m, int quorum) {
        CutDetectMember c = Drive.members(m);
        int config = c.configOf(0);
        int p = m / 2;
        int s = m < 16 ? 15 : 3;
        int members = Drive.all(m) ^ 1 << s;
        String what = m + " members";
        Drive.castVotes(c, s, Drive.range(0, m));
        for (int q = 0; q < quorum - 1; q++) {
            learned(what + ", too few votes", c, p, q, 1 << s);
        }
        CHECKS.due(what + ", one vote short", c.configOf(p), config);
        int slot = Drive.find(c, CutDetectMember.VOTE, quorum - 1);
        CHECKS.answered(what, c, slot, p, CutDetectMember.WELCOME, p, config + 1, members, 1 << s, 0, 1 << s);
        CHECKS.installed(what + ", decided", c, p, config + 1, members, 1 << s);
    }

    /** "Only if vote(p,q) == -1: set vote(p,q) = x." */
    private static void voteIsLearned() {
        CutDetectMember c = new CutDetectMember(5, 2, 1, 1);
        Drive.castVotes(c, 4, 0, 1, 2);
        learned("the vote of 2", c, 1, 2, 16);
        learned("its own vote", c, 1, 1, 16);
        CHECKS.due("voteOf(1, 0)", c.voteOf(1, 0), -1);
        CHECKS.due("voteOf(2, 1)", c.voteOf(2, 1), -1);
    }

    /** "the number of q' in 0..15 with vote(p,q') == x" */
    private static void differentCutsDoNotAddUp() {
        CutDetectMember c = new CutDetectMember(5, 2, 1, 1);
        Drive.castVotes(c, 4, 0, 1, 2);
        Drive.castVotes(c, 3, 3, 4);
        for (int q = 0; q < 5; q++) {
            learned("three against two", c, 1, q, q < 3 ? 16 : 8);
        }
        CHECKS.due("configOf(1)", c.configOf(1), 0);
    }

    private static void lateVoteForTheOtherCut() {
        CutDetectMember c = new CutDetectMember(5, 2, 1, 1);
        Drive.castVotes(c, 4, 0, 1, 2, 3);
        Drive.castVotes(c, 3, 4);
        learned("first", c, 1, 0, 16);
        learned("second", c, 1, 1, 16);
        learned("third", c, 1, 2, 16);
        learned("another cut", c, 1, 4, 8);
        int slot = Drive.find(c, CutDetectMember.VOTE, 3);
        CHECKS.answered("fourth", c, slot, 1, CutDetectMember.WELCOME, 1, 1, 15, 16, 0, 16);
        CHECKS.installed("decided", c, 1, 1, 15, 16);
    }

    /** "in 0..15": of sixteen members the last twelve decide. */
    private static void votesOfTheLastProcesses() {
        CutDetectMember c = new CutDetectMember(16, 2, 1, 1);
        Drive.castVotes(c, 0, Drive.range(4, 16));
        for (int q = 15; q > 4; q--) {
            learned("vote of " + q, c, 15, q, 1);
        }
        int slot = Drive.find(c, CutDetectMember.VOTE, 4);
        CHECKS.answered("vote of 4", c, slot, 15, CutDetectMember.WELCOME, 15, 1, 0xFFFE, 1, 0, 1);
        CHECKS.installed("decided", c, 15, 1, 0xFFFE, 1);
    }

    private static void deciderNeedNotVote() {
        CutDetectMember c = new CutDetectMember(4, 2, 1, 1);
        Drive.castVotes(c, 5, 0, 1, 2);
        learned("first", c, 3, 2, 32);
        learned("second", c, 3, 0, 32);
        CHECKS.due("3 has not voted", c.proposalOf(3), -1);
        int slot = Drive.find(c, CutDetectMember.VOTE, 1);
        CHECKS.answered("third", c, slot, 3, CutDetectMember.WELCOME, 3, 1, 47, 32, 0, 32);
        CHECKS.installed("decided", c, 3, 1, 47, 32);
    }

    /** A vote that was cast counts also with one that has promised and accepted a classic round since. */
    private static void promiseDoesNotMatter() {
        CutDetectMember c = new CutDetectMember(4, 2, 1, 1);
        Drive.castVotes(c, 5, 0, 1, 2);
        Drive.acceptSent(c, 3, 0, 2, 3);
        Drive.give(c, CutDetectMember.ACCEPT, 3, 3);
        learned("first", c, 3, 2, 32);
        learned("second", c, 3, 0, 32);
        int slot = Drive.find(c, CutDetectMember.VOTE, 1);
        CHECKS.answered("third", c, slot, 3, CutDetectMember.WELCOME, 3, 1, 47, 32, 0, 32);
        CHECKS.installed("decided", c, 3, 1, 47, 32);
    }

    /** "Quorums are always those of p at the moment of the rule.": of four members FQ is 3, of five it was 4. */
    private static void quorumOfTheNewMembers() {
        CutDetectMember c = Drive.ahead(5, 4, 0, 1, 2);
        Drive.castVotes(c, 9, 0, 1, 2);
        learned("first of four", c, 0, 0, 512);
        learned("second of four", c, 0, 1, 512);
        int slot = Drive.find(c, CutDetectMember.VOTE, 2);
        CHECKS.answered("third of four", c, slot, 0, CutDetectMember.WELCOME, 0, 2, 527, 512, 0, 512);
        CHECKS.installed("decided", c, 0, 2, 527, 512);
    }

    /** "Quorums are always those of p at the moment of the rule.": 1 has decided, 0 still counts to four. */
    private static void oldQuorumOfOneBehind() {
        CutDetectMember c = new CutDetectMember(5, 2, 1, 1);
        Drive.castVotes(c, 4, 0, 1, 2, 3);
        for (int q = 0; q < 4; q++) {
            Drive.give(c, CutDetectMember.VOTE, q, 1);
        }
        for (int q = 0; q < 3; q++) {
            learned("vote of " + q, c, 0, q, 16);
        }
        int slot = Drive.find(c, CutDetectMember.VOTE, 3);
        CHECKS.answered("fourth", c, slot, 0, CutDetectMember.WELCOME, 0, 1, 15, 16, 0, 16);
    }
}
