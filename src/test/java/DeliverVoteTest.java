/** Promise 5: VOTE and DECIDE. */
public final class DeliverVoteTest {
    private static final Checks CHECKS = new Checks();
    /** FQ for 3..16 members. */
    private static final int[] FAST_QUORUM = {3, 3, 4, 5, 6, 6, 7, 8, 9, 9, 10, 11, 12, 12};

    public static void main(String[] args) {
        for (int n = 3; n <= 16; n++) {
            decidesAtTheFastQuorum(n, FAST_QUORUM[n - 3]);
        }
        differentCutsDoNotAddUp();
        oneVoteOfEachCounts();
        welcomesTheCut();
        deciderInTheCut();
        allMembersRemoved();
        smallClusters();
        CHECKS.end();
    }

    private static int[] first(int n) {
        int[] ids = new int[n];
        for (int i = 0; i < n; i++) {
            ids[i] = i;
        }
        return ids;
    }

    private static void decidesAtTheFastQuorum(int n, int quorum) {
        CutDetectMember c = new CutDetectMember(n, 2, 1, 1);
        int p = n / 2;
        Drive.castVotes(c, 0, first(n));
        for (int q = 0; q < quorum - 1; q++) {
            Drive.give(c, CutDetectMember.VOTE, q, p);
            CHECKS.due("voteOf(" + p + ", " + q + ")", c.voteOf(p, q), 1);
            CHECKS.due("n = " + n + ", after vote " + q, c.configOf(p), 0);
        }
        CHECKS.due("no welcome yet", Drive.find(c, CutDetectMember.WELCOME, p), -1);
        Drive.give(c, CutDetectMember.VOTE, quorum - 1, p);
        CHECKS.installed("n = " + n + ", decided", c, p, 1, Drive.all(n) - 1, 1);
        int slot = Drive.find(c, CutDetectMember.WELCOME, p);
        CHECKS.message("welcome", c, slot, CutDetectMember.WELCOME, p, 1, Drive.all(n) - 1, 1, 0, 1);
    }

    private static void differentCutsDoNotAddUp() {
        CutDetectMember c = new CutDetectMember(5, 2, 1, 1);
        Drive.castVotes(c, 4, 0, 1, 2);
        Drive.castVotes(c, 3, 3, 4);
        for (int q = 0; q < 5; q++) {
            Drive.give(c, CutDetectMember.VOTE, q, 1);
        }
        CHECKS.due("three and two votes decide nothing", c.configOf(1), 0);
        for (int q = 0; q < 5; q++) {
            CHECKS.due("voteOf(1, " + q + ")", c.voteOf(1, q), q < 3 ? 16 : 8);
        }
        CHECKS.due("voteOf(1, 5)", c.voteOf(1, 5), -1);
        CHECKS.due("voteOf(0, 1)", c.voteOf(0, 1), -1);
    }

    private static void oneVoteOfEachCounts() {
        // Three of four decide. Whoever votes late still finds its vote counted by one that has not decided.
        CutDetectMember c = new CutDetectMember(4, 2, 1, 1);
        Drive.castVotes(c, 5, 0, 1, 2, 3);
        Drive.give(c, CutDetectMember.VOTE, 3, 0);
        Drive.give(c, CutDetectMember.VOTE, 1, 0);
        CHECKS.due("two votes", c.configOf(0), 0);
        Drive.give(c, CutDetectMember.VOTE, 0, 0);
        CHECKS.installed("three votes, its own among them", c, 0, 1, 47, 32);
        Drive.give(c, CutDetectMember.VOTE, 2, 0);
        CHECKS.installed("a vote of the old configuration", c, 0, 1, 47, 32);
        int slot = Drive.find(c, CutDetectMember.VOTE, 2);
        CHECKS.message("that vote is used up for 0", c, slot, CutDetectMember.VOTE, 2, 0, 32, 0, 0, 14);
    }

    private static void welcomesTheCut() {
        // H = 2 and L = 1: 4 and 3 become stable together; 5 joins with them.
        CutDetectMember c = new CutDetectMember(5, 2, 2, 1);
        int[][] alerts = {{0, 4}, {4, 3}, {0, 5}, {1, 4}, {0, 3}, {2, 5}};
        for (int[] alert : alerts) {
            Drive.must(c.observe(alert[0], alert[1]), "observe");
            Drive.give(c, CutDetectMember.ALERT, alert[0], 0, 1, 2, 3, 4);
        }
        for (int p = 0; p < 5; p++) {
            CHECKS.due("proposalOf(" + p + ")", c.proposalOf(p), Drive.mask(3, 4, 5));
        }
        for (int q = 0; q < 4; q++) {
            Drive.give(c, CutDetectMember.VOTE, q, 1);
        }
        CHECKS.installed("removals and a join", c, 1, 1, Drive.mask(0, 1, 2, 5), Drive.mask(3, 4, 5));
        int slot = Drive.find(c, CutDetectMember.WELCOME, 1);
        CHECKS.message("welcome", c, slot, CutDetectMember.WELCOME, 1, 1, 39, 56, 0, 56);
    }

    private static void deciderInTheCut() {
        CutDetectMember c = new CutDetectMember(5, 2, 2, 1);
        int[][] alerts = {{0, 4}, {4, 3}, {1, 4}, {0, 3}};
        for (int[] alert : alerts) {
            Drive.must(c.observe(alert[0], alert[1]), "observe");
            Drive.give(c, CutDetectMember.ALERT, alert[0], 0, 1, 2, 3, 4);
        }
        for (int q = 0; q < 4; q++) {
            Drive.give(c, CutDetectMember.VOTE, q, 4);
        }
        CHECKS.installed("4 decides that 3 and 4 leave", c, 4, 1, 7, 24);
        CHECKS.due("4 is out", c.status(4), CutDetectMember.ST_OUT);
        int slot = Drive.find(c, CutDetectMember.WELCOME, 4);
        CHECKS.message("welcome without itself", c, slot, CutDetectMember.WELCOME, 4, 1, 7, 24, 0, 8);
    }

    private static void allMembersRemoved() {
        CutDetectMember c = new CutDetectMember(3, 6, 6, 1);
        int[][] alerts = {{1, 0}, {2, 1}, {0, 2}, {2, 0}, {0, 1}, {1, 2}};
        for (int[] alert : alerts) {
            Drive.must(c.observe(alert[0], alert[1]), "observe");
            Drive.give(c, CutDetectMember.ALERT, alert[0], 0, 1, 2);
        }
        CHECKS.due("proposalOf(0)", c.proposalOf(0), 7);
        for (int q = 0; q < 3; q++) {
            Drive.give(c, CutDetectMember.VOTE, q, 1);
        }
        CHECKS.installed("nobody is left", c, 1, 1, 0, 7);
        int slot = Drive.find(c, CutDetectMember.WELCOME, 1);
        CHECKS.message("welcome to nothing", c, slot, CutDetectMember.WELCOME, 1, 1, 0, 7, 0, 5);
        Drive.must(c.deliver(slot, 0), "welcome of 0");
        CHECKS.installed("nobody is left", c, 0, 1, 0, 7);
        CHECKS.due("status(0)", c.status(0), CutDetectMember.ST_OUT);
        CHECKS.refused("fallback(0)", c, () -> c.fallback(0));
        CHECKS.refused("observe(0, 1)", c, () -> c.observe(0, 1));
        for (int s = 0; s < 16; s++) {
            CHECKS.due("observer(0, " + s + ", 0)", c.observer(0, s, 0), -1);
        }
    }

    private static void smallClusters() {
        CutDetectMember c = new CutDetectMember(3, 2, 1, 1);
        Drive.shrinkToTwo(c);
        Drive.castVotes(c, 1, 0, 1);
        Drive.give(c, CutDetectMember.VOTE, 0, 0);
        CHECKS.due("one vote of two members", c.configOf(0), 1);
        Drive.give(c, CutDetectMember.VOTE, 1, 0);
        CHECKS.installed("two votes of two members", c, 0, 2, 1, 2);
        Drive.dropAll(c);
        Drive.castVotes(c, 6, 0);
        Drive.give(c, CutDetectMember.VOTE, 0, 0);
        CHECKS.installed("one vote of one member", c, 0, 3, 65, 64);
        int slot = Drive.find(c, CutDetectMember.WELCOME, 0);
        CHECKS.message("welcome", c, slot, CutDetectMember.WELCOME, 0, 3, 65, 64, 0, 64);
    }
}
