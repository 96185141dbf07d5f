/** Promise 5: PREPARE, the conditions of PROMISE, ACCEPT and ACCEPTED. */
public final class DeliverRoundTest {
    private static final Checks CHECKS = new Checks();
    /** CQ for 1..16 members, worked out by hand. */
    private static final int[] CLASSIC_QUORUM = {1, 2, 2, 3, 3, 4, 4, 5, 5, 6, 6, 7, 7, 8, 8, 9};

    public static void main(String[] args) {
        prepareAboveThePromise();
        prepareBelowThePromise();
        prepareEqualToThePromise();
        promiseTellsOfNothingAccepted();
        promiseTellsOfTheVote();
        promiseTellsOfTheAccepted();
        promiseToItself();
        promiseIsRecorded();
        promiseWhenIdle();
        promiseWhenTheAcceptIsSent();
        promiseOfAnOlderRound();
        acceptAboveThePromise();
        acceptEqualToThePromise();
        acceptBelowThePromise();
        acceptBelowByOne();
        acceptedToTheOwnMembers();
        acceptedOfTheFirstRound();
        acceptedOfANewerRound();
        acceptedOfTheSameRound();
        acceptedOfAnOlderRound();
        valueOfTheNewerRound();
        for (int m = 1; m <= 16; m++) {
            classicQuorumOfPromises(m, CLASSIC_QUORUM[m - 1]);
            classicQuorumOfAccepted(m, CLASSIC_QUORUM[m - 1]);
        }
        quorumOfTheNewMembers();
        CHECKS.end();
    }

    /** Delivers and checks that of p just these answers of paxos change, and that nothing is sent. */
    private static void only(String what, CutDetectMember c, int slot, int p, int... rounds) {
        int[] due = Checks.snapshotOf(c, p);
        System.arraycopy(rounds, 0, due, Checks.ROUND_CELLS, 8);
        CHECKS.unanswered(what, c, slot, p);
        CHECKS.same(what + " changes the round alone", Checks.snapshotOf(c, p), due);
    }

    /** Delivers and checks that p sends this message and is then in this round. */
    private static void sends(String what, CutDetectMember c, int slot, int p, int[] message, int... rounds) {
        int[] due = Checks.snapshotOf(c, p);
        System.arraycopy(rounds, 0, due, Checks.ROUND_CELLS, 8);
        CHECKS.answered(what, c, slot, p, message);
        CHECKS.same(what + " changes the round alone", Checks.snapshotOf(c, p), due);
    }

    private static int[] promise(int src, int round, int accRnd, int accVal, int dest) {
        return new int[] {CutDetectMember.PROMISE, src, 0, round, accRnd, accVal, dest};
    }

    private static int[] accepted(int src, int round, int value) {
        return new int[] {CutDetectMember.ACCEPTED, src, 0, round, value, 0, 31};
    }

    /** "If x > promised(p): set promised(p) = x and do SEND(p, PROMISE, x, accRnd(p), accVal(p), {q})." */
    private static void prepareAboveThePromise() {
        CutDetectMember c = new CutDetectMember(5, 2, 1, 1);
        Drive.must(c.fallback(0) && c.fallback(1) && c.fallback(4) && c.fallback(0), "four rounds");
        sends("first", c, 0, 3, promise(3, 16, -1, 0, 1), 16, -1, 0, 0, 0, 0, 0, 0);
        sends("greater by one", c, 1, 3, promise(3, 17, -1, 0, 2), 17, -1, 0, 0, 0, 0, 0, 0);
        sends("greater by three", c, 2, 3, promise(3, 20, -1, 0, 16), 20, -1, 0, 0, 0, 0, 0, 0);
        sends("next round of the same", c, 3, 3, promise(3, 32, -1, 0, 1), 32, -1, 0, 0, 0, 0, 0, 0);
    }

    /** "Otherwise nothing.": x < promised(p). */
    private static void prepareBelowThePromise() {
        CutDetectMember c = new CutDetectMember(5, 2, 1, 1);
        Drive.must(c.fallback(0) && c.fallback(1) && c.deliver(1, 3), "two rounds");
        CHECKS.due("promised(3)", c.paxos(3, CutDetectMember.P_PROMISED), 17);
        CHECKS.withoutEffect("smaller by one", c, 0, 3);
    }

    /** "Otherwise nothing.": x == promised(p), by an accept that came before the prepare. */
    private static void prepareEqualToThePromise() {
        CutDetectMember c = new CutDetectMember(5, 2, 1, 1);
        Drive.castVotes(c, 4, 0);
        Drive.dropAll(c);
        Drive.must(c.fallback(0), "fallback(0)");
        Drive.give(c, CutDetectMember.PREPARE, 0, 0, 1, 2);
        Drive.promisesTo(c, 0, 0, 1, 2);
        Drive.give(c, CutDetectMember.ACCEPT, 0, 3);
        CHECKS.due("promised(3)", c.paxos(3, CutDetectMember.P_PROMISED), 16);
        CHECKS.withoutEffect("the round it has promised", c, 0, 3);
    }

    private static void promiseTellsOfNothingAccepted() {
        CutDetectMember c = new CutDetectMember(5, 2, 2, 1);
        Drive.must(c.observe(0, 4) && c.deliver(0, 3), "a report");
        Drive.must(c.fallback(2), "fallback(2)");
        int slot = Drive.find(c, CutDetectMember.PREPARE, 2);
        sends("nothing accepted", c, slot, 3, promise(3, 18, -1, 0, 4), 18, -1, 0, 0, 0, 0, 0, 0);
    }

    private static void promiseTellsOfTheVote() {
        CutDetectMember c = new CutDetectMember(5, 2, 1, 1);
        Drive.castVotes(c, 4, 3);
        Drive.must(c.fallback(2), "fallback(2)");
        int slot = Drive.find(c, CutDetectMember.PREPARE, 2);
        sends("voted", c, slot, 3, promise(3, 18, 0, 16, 4), 18, 0, 16, 0, 0, 0, 0, 0);
    }

    private static void promiseTellsOfTheAccepted() {
        CutDetectMember c = new CutDetectMember(5, 2, 1, 1);
        Drive.castVotes(c, 4, 3);
        Drive.castVotes(c, 1, 0);
        Drive.acceptSent(c, 0, 0, 1, 2);
        Drive.give(c, CutDetectMember.ACCEPT, 0, 3);
        Drive.must(c.fallback(2), "fallback(2)");
        int slot = Drive.find(c, CutDetectMember.PREPARE, 2);
        sends("accepted, not the vote", c, slot, 3, promise(3, 34, 16, 2, 4), 34, 16, 2, 0, 0, 0, 0, 0);
    }

    private static void promiseToItself() {
        CutDetectMember c = new CutDetectMember(5, 2, 1, 1);
        Drive.must(c.fallback(3), "fallback(3)");
        sends("its own prepare", c, 0, 3, promise(3, 19, -1, 0, 8), 19, -1, 0, 19, 1, 0, 0, 0);
    }

    /** "Then add q to prom(p)" */
    private static void promiseIsRecorded() {
        CutDetectMember c = new CutDetectMember(5, 2, 1, 1);
        Drive.prepared(c, 2, 0, 4);
        only("of 4", c, Drive.find(c, CutDetectMember.PROMISE, 4), 2, 0, -1, 0, 18, 1, 0, 0, 1);
        only("of 0", c, Drive.find(c, CutDetectMember.PROMISE, 0), 2, 0, -1, 0, 18, 1, 0, 0, 2);
    }

    /** "This applies only if phase(p) == 1": nothing was there to choose, so the phase is 0. */
    private static void promiseWhenIdle() {
        CutDetectMember c = new CutDetectMember(5, 2, 1, 1);
        Drive.castVotes(c, 4, 4);
        Drive.prepared(c, 2, 0, 1, 2, 4);
        Drive.promisesTo(c, 2, 0, 1, 2);
        CHECKS.rounds("idle", c, 2, 18, -1, 0, 18, 0, 0, 0, 3);
        CHECKS.withoutEffect("one more promise", c, Drive.find(c, CutDetectMember.PROMISE, 4), 2);
    }

    /** "This applies only if phase(p) == 1": the accept is sent, so the phase is 2. */
    private static void promiseWhenTheAcceptIsSent() {
        CutDetectMember c = new CutDetectMember(5, 2, 1, 1);
        Drive.castVotes(c, 4, 0);
        Drive.prepared(c, 2, 0, 1, 2, 4);
        Drive.promisesTo(c, 2, 0, 1, 2);
        CHECKS.rounds("accept sent", c, 2, 18, -1, 0, 18, 2, 0, 0, 3);
        CHECKS.withoutEffect("one more promise", c, Drive.find(c, CutDetectMember.PROMISE, 4), 2);
    }

    /** "x == crnd(p)": the promise is one of a round that p has left. */
    private static void promiseOfAnOlderRound() {
        CutDetectMember c = new CutDetectMember(5, 2, 1, 1);
        Drive.prepared(c, 2, 0, 1);
        Drive.must(c.fallback(2), "fallback(2)");
        CHECKS.withoutEffect("of round 18", c, Drive.find(c, CutDetectMember.PROMISE, 0), 2);
        Drive.give(c, CutDetectMember.PREPARE, 2, 0);
        only("of round 34", c, Drive.find(c, CutDetectMember.PROMISE, 0), 2, 0, -1, 0, 34, 1, 0, 0, 1);
        CHECKS.withoutEffect("of round 18", c, Drive.find(c, CutDetectMember.PROMISE, 1), 2);
    }

    /** 0 has sent the accept of cut {4} in round 16; 3 and 4 have promised nothing. */
    private static CutDetectMember accepting() {
        CutDetectMember c = new CutDetectMember(5, 2, 1, 1);
        Drive.castVotes(c, 4, 0);
        Drive.acceptSent(c, 0, 0, 1, 2);
        return c;
    }

    /** "If x >= promised(p): set promised(p) = x, accRnd(p) = x, accVal(p) = y" */
    private static void acceptAboveThePromise() {
        CutDetectMember c = accepting();
        int slot = Drive.find(c, CutDetectMember.ACCEPT, 0);
        sends("without a promise", c, slot, 3, accepted(3, 16, 16), 16, 16, 16, 0, 0, 0, 0, 0);
    }

    /** "If x >= promised(p)": they are equal. */
    private static void acceptEqualToThePromise() {
        CutDetectMember c = accepting();
        int slot = Drive.find(c, CutDetectMember.ACCEPT, 0);
        CHECKS.due("promised(1)", c.paxos(1, CutDetectMember.P_PROMISED), 16);
        sends("as promised", c, slot, 1, accepted(1, 16, 16), 16, 16, 16, 0, 0, 0, 0, 0);
        sends("by its coordinator", c, slot, 0, accepted(0, 16, 16), 16, 16, 16, 16, 2, 0, 0, 3);
    }

    /** "Otherwise nothing.": x < promised(p). */
    private static void acceptBelowThePromise() {
        CutDetectMember c = accepting();
        Drive.prepared(c, 1, 2);
        CHECKS.due("promised(2)", c.paxos(2, CutDetectMember.P_PROMISED), 33);
        CHECKS.withoutEffect("after a later promise", c, Drive.find(c, CutDetectMember.ACCEPT, 0), 2);
    }

    private static void acceptBelowByOne() {
        CutDetectMember c = new CutDetectMember(5, 2, 1, 1);
        Drive.castVotes(c, 4, 0);
        Drive.must(c.fallback(0) && c.fallback(1), "rounds 16 and 17");
        Drive.give(c, CutDetectMember.PREPARE, 0, 0, 1, 2);
        Drive.promisesTo(c, 0, 0, 1, 2);
        Drive.give(c, CutDetectMember.PREPARE, 1, 3);
        CHECKS.due("promised(3)", c.paxos(3, CutDetectMember.P_PROMISED), 17);
        CHECKS.withoutEffect("round 16 after a promise of 17", c, Drive.find(c, CutDetectMember.ACCEPT, 0), 3);
    }

    /** "do BROADCAST(p, ACCEPTED, x, y, 0)": to the members that p knows of, in its configuration. */
    private static void acceptedToTheOwnMembers() {
        CutDetectMember c = Drive.ahead(6, 5, 1, 2, 3);
        Drive.castVotes(c, 1, 1);
        Drive.acceptSent(c, 3, 1, 2, 3);
        CHECKS.due("membersOf(0)", c.membersOf(0), 63);
        int[] message = {CutDetectMember.ACCEPTED, 2, 1, 19, 2, 0, 31};
        int slot = Drive.find(c, CutDetectMember.ACCEPT, 3);
        sends("one that is ahead", c, slot, 2, message, 19, 19, 2, 0, 0, 0, 0, 0);
    }

    /** "If x > lrnd(p): set lrnd(p) = x, lset(p) = {q}, lval(p) = y." */
    private static void acceptedOfTheFirstRound() {
        CutDetectMember c = accepting();
        Drive.give(c, CutDetectMember.ACCEPT, 0, 0, 1, 2);
        only("first", c, Drive.find(c, CutDetectMember.ACCEPTED, 2), 4, 0, -1, 0, 0, 0, 16, 1, 0);
    }

    /** Two have accepted round 16, and 3 has accepted round 33 with the same value. */
    private static CutDetectMember acceptedTwice() {
        CutDetectMember c = accepting();
        Drive.give(c, CutDetectMember.ACCEPT, 0, 0, 1, 2);
        Drive.acceptSent(c, 1, 1, 2, 3);
        int slot = Drive.find(c, CutDetectMember.ACCEPT, 1);
        Drive.must(c.deliver(slot, 3), "the accept to 3");
        return c;
    }

    /** "If x > lrnd(p)": the senders of the older round no longer count. */
    private static void acceptedOfANewerRound() {
        CutDetectMember c = acceptedTwice();
        only("round 16", c, Drive.find(c, CutDetectMember.ACCEPTED, 0), 4, 0, -1, 0, 0, 0, 16, 1, 0);
        only("round 16", c, Drive.find(c, CutDetectMember.ACCEPTED, 1), 4, 0, -1, 0, 0, 0, 16, 2, 0);
        only("round 33", c, Drive.find(c, CutDetectMember.ACCEPTED, 3), 4, 0, -1, 0, 0, 0, 33, 1, 0);
    }

    /** "Else if x == lrnd(p): add q to lset(p)." */
    private static void acceptedOfTheSameRound() {
        CutDetectMember c = accepting();
        Drive.give(c, CutDetectMember.ACCEPT, 0, 0, 1, 2);
        only("first", c, Drive.find(c, CutDetectMember.ACCEPTED, 0), 4, 0, -1, 0, 0, 0, 16, 1, 0);
        only("second", c, Drive.find(c, CutDetectMember.ACCEPTED, 1), 4, 0, -1, 0, 0, 0, 16, 2, 0);
    }

    /** "Else stop." */
    private static void acceptedOfAnOlderRound() {
        CutDetectMember c = acceptedTwice();
        only("round 33", c, Drive.find(c, CutDetectMember.ACCEPTED, 3), 4, 0, -1, 0, 0, 0, 33, 1, 0);
        for (int q = 0; q < 3; q++) {
            CHECKS.withoutEffect("round 16 of " + q, c, Drive.find(c, CutDetectMember.ACCEPTED, q), 4);
        }
    }

    /** "do DECIDE(p, lval(p))": round 16 carries cut {3}, and round 36 carries cut {4}. */
    private static void valueOfTheNewerRound() {
        CutDetectMember c = new CutDetectMember(5, 2, 1, 1);
        Drive.castVotes(c, 3, 0);
        Drive.acceptSent(c, 0, 0, 1, 2);
        Drive.give(c, CutDetectMember.ACCEPT, 0, 0);
        Drive.castVotes(c, 4, 4);
        Drive.must(c.fallback(4), "fallback(4)");
        Drive.dropKind(c, CutDetectMember.PREPARE);
        Drive.acceptSent(c, 4, 2, 3, 4);
        Drive.give(c, CutDetectMember.ACCEPT, 4, 2, 3, 4);
        only("round 16", c, Drive.find(c, CutDetectMember.ACCEPTED, 0), 1, 16, -1, 0, 0, 0, 16, 1, 0);
        only("round 36", c, Drive.find(c, CutDetectMember.ACCEPTED, 2), 1, 16, -1, 0, 0, 0, 36, 1, 0);
        only("round 36", c, Drive.find(c, CutDetectMember.ACCEPTED, 3), 1, 16, -1, 0, 0, 0, 36, 2, 0);
        int slot = Drive.find(c, CutDetectMember.ACCEPTED, 4);
        CHECKS.answered("third of round 36", c, slot, 1, CutDetectMember.WELCOME, 1, 1, 15, 16, 0, 16);
        CHECKS.installed("the value of round 36", c, 1, 1, 15, 16);
    }

    /** A subject that is no member, but where all sixteen are. */
    private static int subject(int m) {
        return m < 16 ? 15 : 3;
    }

    /** "If count(prom(p)) now equals CQ": missed by one, and reached. */
    private static void classicQuorumOfPromises(int m, int quorum) {
        CutDetectMember c = Drive.members(m);
        int config = c.configOf(0);
        int p = m - 1;
        int cut = 1 << subject(m);
        String what = m + " members";
        Drive.castVotes(c, subject(m), Drive.range(0, m));
        Drive.dropAll(c);
        Drive.prepared(c, p, Drive.range(0, m));
        for (int q = 0; q < quorum - 1; q++) {
            int slot = Drive.find(c, CutDetectMember.PROMISE, q);
            only(what, c, slot, p, 16 + p, 0, cut, 16 + p, 1, 0, 0, q + 1);
        }
        int slot = Drive.find(c, CutDetectMember.PROMISE, quorum - 1);
        int[] accept = {CutDetectMember.ACCEPT, p, config, 16 + p, cut, 0, Drive.all(m)};
        sends(what, c, slot, p, accept, 16 + p, 0, cut, 16 + p, 2, 0, 0, quorum);
    }

    /** "if count(lset(p)) >= CQ": missed by one, and reached. */
    private static void classicQuorumOfAccepted(int m, int quorum) {
        CutDetectMember c = Drive.members(m);
        int config = c.configOf(0);
        int p = m / 2;
        int cut = 1 << subject(m);
        int members = Drive.all(m) ^ cut;
        String what = m + " members";
        Drive.castVotes(c, subject(m), Drive.range(0, m));
        Drive.dropAll(c);
        Drive.acceptSent(c, 0, Drive.range(0, quorum));
        Drive.give(c, CutDetectMember.ACCEPT, 0, Drive.range(m - quorum, m));
        int[] rounds = Checks.snapshotOf(c, p);
        for (int q = m - 1; q > m - quorum; q--) {
            rounds[Checks.ROUND_CELLS + CutDetectMember.P_LRND] = 16;
            rounds[Checks.ROUND_CELLS + CutDetectMember.P_LCOUNT] = m - q;
            CHECKS.unanswered(what, c, Drive.find(c, CutDetectMember.ACCEPTED, q), p);
            CHECKS.same(what + ", accepted by " + (m - q), Checks.snapshotOf(c, p), rounds);
        }
        int slot = Drive.find(c, CutDetectMember.ACCEPTED, m - quorum);
        CHECKS.answered(what, c, slot, p, CutDetectMember.WELCOME, p, config + 1, members, cut, 0, cut);
        CHECKS.installed(what, c, p, config + 1, members, cut);
    }

    /** "Quorums are always those of p at the moment of the rule.": CQ is 4 of six members, and 3 of five. */
    private static void quorumOfTheNewMembers() {
        CutDetectMember c = Drive.ahead(6, 5, 1, 2, 3);
        Drive.castVotes(c, 1, 1);
        Drive.prepared(c, 3, 1, 2, 3);
        Drive.promisesTo(c, 3, 1, 2);
        CHECKS.rounds("two promises", c, 3, 19, -1, 0, 19, 1, 0, 0, 2);
        Drive.promisesTo(c, 3, 3);
        CHECKS.rounds("three promises", c, 3, 19, -1, 0, 19, 2, 0, 0, 3);
        Drive.give(c, CutDetectMember.ACCEPT, 3, 1, 2, 3);
        Drive.give(c, CutDetectMember.ACCEPTED, 1, 2);
        Drive.give(c, CutDetectMember.ACCEPTED, 2, 2);
        CHECKS.due("two have accepted", c.configOf(2), 1);
        int slot = Drive.find(c, CutDetectMember.ACCEPTED, 3);
        CHECKS.answered("third", c, slot, 2, CutDetectMember.WELCOME, 2, 2, 29, 2, 0, 2);
        CHECKS.installed("third", c, 2, 2, 29, 2);
    }
}
