import java.util.Arrays;

/** Promise 5: PREPARE, PROMISE with CHOOSE, ACCEPT and ACCEPTED. */
public final class DeliverRoundTest {
    private static final Checks CHECKS = new Checks();
    /** CQ for 3..16 members. */
    private static final int[] CLASSIC_QUORUM = {2, 3, 3, 4, 4, 5, 5, 6, 6, 7, 7, 8, 8, 9};
    /** T for 3..16 members. */
    private static final int[] FAST_SHARE = {2, 2, 2, 3, 3, 3, 3, 4, 4, 4, 4, 5, 5, 5};

    public static void main(String[] args) {
        prepare();
        prepareTellsWhatIsAccepted();
        promiseConditions();
        for (int n = 3; n <= 16; n++) {
            wholeRound(n, CLASSIC_QUORUM[n - 3]);
            fastShare(n, CLASSIC_QUORUM[n - 3], FAST_SHARE[n - 3]);
        }
        greatestClassicRoundIsChosen();
        classicValueBeatsFastVotes();
        leastFastVoterIsChosen();
        ownVoteIsChosen();
        nothingToChoose();
        accept();
        prepareOfTheAcceptedRound();
        acceptedRounds();
        lastProcessCounts();
        fastShareOfTheLeast();
        quorumsAreTheCoordinatorsOwn();
        CHECKS.end();
    }

    private static int promised(CutDetectMember c, int p) {
        return c.paxos(p, CutDetectMember.P_PROMISED);
    }

    private static int[] from(int first, int end) {
        int[] ids = new int[end - first];
        for (int i = first; i < end; i++) {
            ids[i - first] = i;
        }
        return ids;
    }

    /** p starts a round and these processes promise; the promises stay in their slots. */
    private static void prepared(CutDetectMember c, int p, int... promisers) {
        Drive.must(c.fallback(p), "fallback(" + p + ")");
        Drive.give(c, CutDetectMember.PREPARE, p, promisers);
        Drive.dropKind(c, CutDetectMember.PREPARE);
    }

    private static void promisesTo(CutDetectMember c, int p, int... promisers) {
        for (int q : promisers) {
            Drive.give(c, CutDetectMember.PROMISE, q, p);
        }
    }

    /** The value of the accept that p has sent. */
    private static void accepts(String what, CutDetectMember c, int p, int round, int value) {
        int slot = Drive.find(c, CutDetectMember.ACCEPT, p);
        CHECKS.due(what + ", phase", c.paxos(p, CutDetectMember.P_PHASE), 2);
        CHECKS.message(what, c, slot, CutDetectMember.ACCEPT, p, 0, round, value, 0, c.membersOf(p));
    }

    private static void prepare() {
        CutDetectMember c = new CutDetectMember(5, 2, 1, 1);
        Drive.must(c.fallback(0), "fallback(0)");
        Drive.must(c.fallback(3), "fallback(3)");
        Drive.give(c, CutDetectMember.PREPARE, 3, 1);
        CHECKS.due("promised(1)", promised(c, 1), 19);
        int slot = Drive.find(c, CutDetectMember.PROMISE, 1);
        CHECKS.message("promise", c, slot, CutDetectMember.PROMISE, 1, 0, 19, -1, 0, 8);
        int used = Drive.usedSlots(c);
        int[] before = Checks.processSnapshot(c);
        Drive.give(c, CutDetectMember.PREPARE, 0, 1);
        CHECKS.due("a lower round is not promised", Arrays.equals(before, Checks.processSnapshot(c)), true);
        CHECKS.due("nor answered", Drive.usedSlots(c), used);
        Drive.give(c, CutDetectMember.PREPARE, 0, 0);
        CHECKS.due("promised(0)", promised(c, 0), 16);
        Drive.give(c, CutDetectMember.PREPARE, 3, 0);
        CHECKS.due("promised(0) again", promised(c, 0), 19);
        CHECKS.due("crnd(0) stays", c.paxos(0, CutDetectMember.P_CRND), 16);
        CHECKS.due("phase(0) stays", c.paxos(0, CutDetectMember.P_PHASE), 1);
        Drive.give(c, CutDetectMember.PREPARE, 3, 3);
        slot = Drive.find(c, CutDetectMember.PROMISE, 3);
        CHECKS.message("promise to itself", c, slot, CutDetectMember.PROMISE, 3, 0, 19, -1, 0, 8);
    }

    private static void prepareTellsWhatIsAccepted() {
        CutDetectMember c = new CutDetectMember(5, 2, 1, 1);
        Drive.castVotes(c, 4, 1, 2, 3);
        prepared(c, 0, 1, 2, 3);
        int slot = Drive.find(c, CutDetectMember.PROMISE, 1);
        CHECKS.message("promise after a vote", c, slot, CutDetectMember.PROMISE, 1, 0, 16, 0, 16, 1);
        promisesTo(c, 0, 1, 2, 3);
        Drive.give(c, CutDetectMember.ACCEPT, 0, 1);
        prepared(c, 2, 1);
        slot = Drive.find(c, CutDetectMember.PROMISE, 1);
        CHECKS.message("promise after an accept", c, slot, CutDetectMember.PROMISE, 1, 0, 34, 16, 16, 4);
    }

    private static void promiseConditions() {
        CutDetectMember c = new CutDetectMember(5, 2, 1, 1);
        Drive.castVotes(c, 4, 0, 1, 2, 3, 4);
        prepared(c, 0, 0, 1, 2, 3, 4);
        promisesTo(c, 0, 4);
        CHECKS.due("one promise", c.paxos(0, CutDetectMember.P_PCOUNT), 1);
        CHECKS.due("still collecting", c.paxos(0, CutDetectMember.P_PHASE), 1);
        promisesTo(c, 0, 0, 1);
        CHECKS.due("three promises", c.paxos(0, CutDetectMember.P_PCOUNT), 3);
        accepts("three of five", c, 0, 16, 16);
        int used = Drive.usedSlots(c);
        int[] before = Checks.processSnapshot(c);
        promisesTo(c, 0, 2);
        CHECKS.due("a fourth changes nothing", Arrays.equals(before, Checks.processSnapshot(c)), true);
        CHECKS.due("and sends nothing", Drive.usedSlots(c), used - 1);
        Drive.must(c.fallback(0), "fallback(0)");
        before = Checks.processSnapshot(c);
        promisesTo(c, 0, 3);
        CHECKS.due("a promise of an old round", Arrays.equals(before, Checks.processSnapshot(c)), true);
    }

    private static void wholeRound(int n, int quorum) {
        CutDetectMember c = new CutDetectMember(n, 2, 1, 1);
        int p = n - 1;
        int round = 16 + p;
        String what = "n = " + n;
        Drive.castVotes(c, 0, from(0, n));
        Drive.dropAll(c);
        prepared(c, p, from(0, n));
        promisesTo(c, p, from(0, quorum - 1));
        CHECKS.due(what + ", one promise short", c.paxos(p, CutDetectMember.P_PHASE), 1);
        CHECKS.due(what + ", promises", c.paxos(p, CutDetectMember.P_PCOUNT), quorum - 1);
        CHECKS.due(what + ", no accept", Drive.find(c, CutDetectMember.ACCEPT, p), -1);
        promisesTo(c, p, quorum - 1);
        accepts(what, c, p, round, 1);
        Drive.dropKind(c, CutDetectMember.PROMISE);
        Drive.give(c, CutDetectMember.ACCEPT, p, from(0, n));
        for (int q = 0; q < quorum - 1; q++) {
            Drive.give(c, CutDetectMember.ACCEPTED, q, 1);
            CHECKS.due(what + ", learned from", c.paxos(1, CutDetectMember.P_LCOUNT), q + 1);
            CHECKS.due(what + ", learned round", c.paxos(1, CutDetectMember.P_LRND), round);
        }
        CHECKS.due(what + ", one accepted short", c.configOf(1), 0);
        Drive.give(c, CutDetectMember.ACCEPTED, quorum - 1, 1);
        CHECKS.installed(what + ", decided", c, 1, 1, Drive.all(n) - 1, 1);
        int slot = Drive.find(c, CutDetectMember.WELCOME, 1);
        CHECKS.message(what, c, slot, CutDetectMember.WELCOME, 1, 1, Drive.all(n) - 1, 1, 0, 1);
    }

    /** Process 0 has voted otherwise than the `share` or one fewer processes after it. */
    private static void fastShare(int n, int quorum, int share) {
        for (int voters = share - 1; voters <= share && voters + 1 <= quorum; voters++) {
            CutDetectMember c = new CutDetectMember(n, 2, 1, 1);
            int p = n - 1;
            Drive.castVotes(c, n - 1, 0);
            Drive.castVotes(c, n - 2, from(1, voters + 1));
            Drive.dropAll(c);
            prepared(c, p, from(0, quorum));
            promisesTo(c, p, from(0, quorum));
            int value = 1 << (voters == share ? n - 2 : n - 1);
            accepts("n = " + n + ", " + voters + " alike", c, p, 16 + p, value);
        }
    }

    private static void greatestClassicRoundIsChosen() {
        // 1 accepts cut 8 in round 16 of 0, then 3 accepts cut 16 in round 36 of 4.
        CutDetectMember c = new CutDetectMember(5, 2, 1, 1);
        Drive.castVotes(c, 3, 0);
        Drive.dropAll(c);
        prepared(c, 0, 0, 1, 2);
        promisesTo(c, 0, 0, 1, 2);
        accepts("round 16", c, 0, 16, 8);
        Drive.give(c, CutDetectMember.ACCEPT, 0, 1);
        Drive.castVotes(c, 4, 4);
        Drive.must(c.fallback(4), "fallback(4)");
        Drive.dropKind(c, CutDetectMember.PREPARE);
        prepared(c, 4, 2, 3, 4);
        promisesTo(c, 4, 2, 3, 4);
        accepts("round 36", c, 4, 36, 16);
        Drive.give(c, CutDetectMember.ACCEPT, 4, 3);
        CHECKS.due("accVal(1)", c.paxos(1, CutDetectMember.P_ACCVAL), 8);
        CHECKS.due("accVal(3)", c.paxos(3, CutDetectMember.P_ACCVAL), 16);
        Drive.dropKind(c, CutDetectMember.ACCEPT);
        prepared(c, 2, 1, 2, 3);
        promisesTo(c, 2, 1, 2, 3);
        accepts("the greatest round is that of 3", c, 2, 50, 16);
    }

    private static void classicValueBeatsFastVotes() {
        // 0 proposes cut 8 in a classic round that only 3 accepts; 1 and 2 have voted for cut 16.
        CutDetectMember c = new CutDetectMember(5, 2, 1, 1);
        Drive.castVotes(c, 3, 0);
        Drive.castVotes(c, 4, 1, 2);
        Drive.dropAll(c);
        prepared(c, 0, 0, 3, 4);
        promisesTo(c, 0, 0, 3, 4);
        accepts("round 16", c, 0, 16, 8);
        Drive.give(c, CutDetectMember.ACCEPT, 0, 3);
        Drive.dropKind(c, CutDetectMember.ACCEPT);
        prepared(c, 4, 1, 2, 3);
        promisesTo(c, 4, 1, 2, 3);
        accepts("one classic value against two fast votes", c, 4, 36, 8);

        // Here the greatest round is that of the least process, and its promise comes second.
        CutDetectMember d = new CutDetectMember(5, 2, 1, 1);
        Drive.castVotes(d, 3, 4);
        Drive.dropAll(d);
        prepared(d, 4, 2, 3, 4);
        promisesTo(d, 4, 2, 3, 4);
        Drive.give(d, CutDetectMember.ACCEPT, 4, 3);
        Drive.dropKind(d, CutDetectMember.ACCEPT);
        Drive.castVotes(d, 4, 0);
        Drive.dropKind(d, CutDetectMember.VOTE);
        Drive.must(d.fallback(0), "fallback(0)");
        Drive.dropKind(d, CutDetectMember.PREPARE);
        prepared(d, 0, 0, 1, 2);
        promisesTo(d, 0, 0, 1, 2);
        accepts("round 32", d, 0, 32, 16);
        Drive.give(d, CutDetectMember.ACCEPT, 0, 0);
        Drive.dropKind(d, CutDetectMember.ACCEPT);
        prepared(d, 2, 3, 0, 2);
        promisesTo(d, 2, 3, 0, 2);
        accepts("round 32 of 0 against round 20 of 3", d, 2, 50, 16);
    }

    private static void leastFastVoterIsChosen() {
        CutDetectMember c = new CutDetectMember(5, 2, 1, 1);
        Drive.castVotes(c, 4, 1);
        Drive.castVotes(c, 3, 3);
        Drive.castVotes(c, 0, 0);
        Drive.dropAll(c);
        prepared(c, 0, 1, 2, 3);
        promisesTo(c, 0, 3, 2, 1);
        accepts("one vote each: that of 1, not of 0 itself", c, 0, 16, 16);
    }

    private static void ownVoteIsChosen() {
        for (int p = 0; p < 5; p++) {
            CutDetectMember c = new CutDetectMember(5, 2, 1, 1);
            int[] others = {(p + 1) % 5, (p + 2) % 5, (p + 3) % 5};
            Drive.castVotes(c, 4, p);
            Drive.castVotes(c, 3, (p + 4) % 5);
            Drive.dropAll(c);
            prepared(c, p, others);
            promisesTo(c, p, others);
            accepts("no promiser has voted", c, p, 16 + p, 16);
        }
    }

    private static void nothingToChoose() {
        for (int p = 0; p < 5; p++) {
            CutDetectMember c = new CutDetectMember(5, 2, 1, 1);
            Drive.castVotes(c, 3, (p + 4) % 5);
            Drive.dropAll(c);
            int late = (p + 3) % 5;
            prepared(c, p, p, (p + 1) % 5, (p + 2) % 5, late);
            promisesTo(c, p, p, (p + 1) % 5, (p + 2) % 5);
            CHECKS.due("phase(" + p + ")", c.paxos(p, CutDetectMember.P_PHASE), 0);
            CHECKS.due("crnd(" + p + ")", c.paxos(p, CutDetectMember.P_CRND), 16 + p);
            CHECKS.due("promises", c.paxos(p, CutDetectMember.P_PCOUNT), 3);
            CHECKS.due("no accept", Drive.find(c, CutDetectMember.ACCEPT, p), -1);
            promisesTo(c, p, late);
            CHECKS.due("a fourth promise comes too late", c.paxos(p, CutDetectMember.P_PCOUNT), 3);
            CHECKS.due("nothing is in the pool", Drive.usedSlots(c), 0);
        }
    }

    private static void fastShareOfTheLeast() {
        // 0 and 2 have voted alike and 1 otherwise: the two decide, whichever is asked first.
        CutDetectMember c = new CutDetectMember(5, 2, 1, 1);
        Drive.castVotes(c, 4, 0, 2);
        Drive.castVotes(c, 3, 1, 3);
        Drive.dropAll(c);
        prepared(c, 3, 0, 1, 2);
        promisesTo(c, 3, 2, 1, 0);
        accepts("two alike, not next to each other", c, 3, 19, 16);
        CutDetectMember six = new CutDetectMember(6, 2, 1, 1);
        Drive.castVotes(six, 4, 1);
        Drive.castVotes(six, 5, 0, 2, 3);
        Drive.dropAll(six);
        prepared(six, 3, 0, 1, 2, 3);
        promisesTo(six, 3, 1, 2, 3, 0);
        accepts("three alike of four", six, 3, 19, 32);
    }

    private static void quorumsAreTheCoordinatorsOwn() {
        // 5 is removed, but 0 does not know it yet: of five members T is 2, of six it would be 3.
        CutDetectMember c = new CutDetectMember(6, 2, 1, 1);
        Drive.castVotes(c, 5, 0, 1, 2, 3, 4);
        for (int q = 0; q < 5; q++) {
            Drive.give(c, CutDetectMember.VOTE, q, 1, 2, 3);
        }
        Drive.castVotes(c, 1, 1);
        Drive.castVotes(c, 2, 2, 3);
        Drive.dropAll(c);
        prepared(c, 3, 1, 2, 3);
        promisesTo(c, 3, 1, 2, 3);
        int slot = Drive.find(c, CutDetectMember.ACCEPT, 3);
        CHECKS.message("two alike of three", c, slot, CutDetectMember.ACCEPT, 3, 1, 19, 4, 0, 31);
    }

    private static void lastProcessCounts() {
        CutDetectMember c = new CutDetectMember(16, 2, 1, 1);
        Drive.castVotes(c, 4, from(7, 16));
        Drive.dropAll(c);
        prepared(c, 15, from(7, 16));
        promisesTo(c, 15, from(7, 16));
        accepts("promises of 7..15", c, 15, 31, 16);
        Drive.give(c, CutDetectMember.ACCEPT, 15, from(7, 16));
        for (int q = 15; q >= 7; q--) {
            CHECKS.due("senders before " + q, c.paxos(3, CutDetectMember.P_LCOUNT), 15 - q);
            Drive.give(c, CutDetectMember.ACCEPTED, q, 3);
        }
        CHECKS.installed("accepted by 7..15", c, 3, 1, 0xFFEF, 16);
    }

    private static void accept() {
        CutDetectMember c = new CutDetectMember(5, 2, 1, 1);
        Drive.castVotes(c, 4, 0, 1);
        Drive.dropAll(c);
        prepared(c, 0, 0, 1, 2);
        promisesTo(c, 0, 0, 1, 2);
        Drive.give(c, CutDetectMember.ACCEPT, 0, 1);
        CHECKS.due("the promised round is accepted", c.paxos(1, CutDetectMember.P_ACCRND), 16);
        CHECKS.due("accVal(1)", c.paxos(1, CutDetectMember.P_ACCVAL), 16);
        int slot = Drive.find(c, CutDetectMember.ACCEPTED, 1);
        CHECKS.message("accepted", c, slot, CutDetectMember.ACCEPTED, 1, 0, 16, 16, 0, 31);
        Drive.give(c, CutDetectMember.ACCEPT, 0, 4);
        CHECKS.due("accepted without a promise", c.paxos(4, CutDetectMember.P_ACCRND), 16);
        CHECKS.due("promised(4)", promised(c, 4), 16);
        CHECKS.due("proposalOf(4)", c.proposalOf(4), -1);
        prepared(c, 3, 2);
        int used = Drive.usedSlots(c);
        int[] before = Checks.processSnapshot(c);
        Drive.give(c, CutDetectMember.ACCEPT, 0, 2);
        CHECKS.due("a round below the promise", Arrays.equals(before, Checks.processSnapshot(c)), true);
        CHECKS.due("is not answered", Drive.usedSlots(c), used);
    }

    private static void prepareOfTheAcceptedRound() {
        CutDetectMember c = new CutDetectMember(5, 2, 1, 1);
        Drive.castVotes(c, 4, 0, 1);
        Drive.dropAll(c);
        Drive.must(c.fallback(0), "fallback(0)");
        Drive.give(c, CutDetectMember.PREPARE, 0, 0, 1, 2);
        promisesTo(c, 0, 0, 1, 2);
        Drive.give(c, CutDetectMember.ACCEPT, 0, 3);
        int used = Drive.usedSlots(c);
        int[] before = Checks.processSnapshot(c);
        Drive.give(c, CutDetectMember.PREPARE, 0, 3);
        CHECKS.due("a round equal to the promise", Arrays.equals(before, Checks.processSnapshot(c)), true);
        CHECKS.due("is not promised again", Drive.usedSlots(c), used);
    }

    private static void acceptedRounds() {
        // 0 gets cut 16 accepted in round 16, and 4 finds it again in round 36.
        CutDetectMember c = new CutDetectMember(5, 2, 1, 1);
        Drive.castVotes(c, 4, 0);
        Drive.dropAll(c);
        prepared(c, 0, 0, 1, 2);
        promisesTo(c, 0, 0, 1, 2);
        Drive.give(c, CutDetectMember.ACCEPT, 0, 0, 1, 2);
        prepared(c, 1, 1, 2, 3);
        promisesTo(c, 1, 1, 2, 3);
        accepts("round 33", c, 1, 33, 16);
        Drive.give(c, CutDetectMember.ACCEPTED, 0, 4);
        Drive.give(c, CutDetectMember.ACCEPTED, 1, 4);
        CHECKS.due("lrnd(4)", c.paxos(4, CutDetectMember.P_LRND), 16);
        CHECKS.due("two senders", c.paxos(4, CutDetectMember.P_LCOUNT), 2);
        Drive.give(c, CutDetectMember.ACCEPT, 1, 3);
        Drive.give(c, CutDetectMember.ACCEPTED, 3, 4);
        CHECKS.due("a newer round", c.paxos(4, CutDetectMember.P_LRND), 33);
        CHECKS.due("counts from one again", c.paxos(4, CutDetectMember.P_LCOUNT), 1);
        Drive.give(c, CutDetectMember.ACCEPTED, 2, 4);
        CHECKS.due("an older round", c.paxos(4, CutDetectMember.P_LRND), 33);
        CHECKS.due("does not count", c.paxos(4, CutDetectMember.P_LCOUNT), 1);
        CHECKS.due("configOf(4)", c.configOf(4), 0);
        Drive.dropKind(c, CutDetectMember.ACCEPTED);
        Drive.give(c, CutDetectMember.ACCEPT, 1, 0, 1);
        Drive.give(c, CutDetectMember.ACCEPTED, 0, 4);
        CHECKS.due("two of the newer round", c.paxos(4, CutDetectMember.P_LCOUNT), 2);
        Drive.give(c, CutDetectMember.ACCEPTED, 1, 4);
        CHECKS.installed("three of the newer round", c, 4, 1, 15, 16);
        differentValues();
    }

    private static void differentValues() {
        // Round 16 carries cut 8 and was accepted by one; round 36 carries cut 16 and is decided.
        CutDetectMember c = new CutDetectMember(5, 2, 1, 1);
        Drive.castVotes(c, 3, 0);
        Drive.dropAll(c);
        prepared(c, 0, 0, 1, 2);
        promisesTo(c, 0, 0, 1, 2);
        Drive.give(c, CutDetectMember.ACCEPT, 0, 0);
        Drive.castVotes(c, 4, 4);
        Drive.must(c.fallback(4), "fallback(4)");
        Drive.dropKind(c, CutDetectMember.PREPARE);
        prepared(c, 4, 2, 3, 4);
        promisesTo(c, 4, 2, 3, 4);
        Drive.give(c, CutDetectMember.ACCEPT, 4, 2, 3, 4);
        Drive.give(c, CutDetectMember.ACCEPTED, 0, 1);
        Drive.give(c, CutDetectMember.ACCEPTED, 2, 1);
        Drive.give(c, CutDetectMember.ACCEPTED, 3, 1);
        CHECKS.due("not decided by two and one", c.configOf(1), 0);
        Drive.give(c, CutDetectMember.ACCEPTED, 4, 1);
        CHECKS.installed("the value of the newer round", c, 1, 1, 15, 16);
    }
}
