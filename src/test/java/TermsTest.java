/** The terms that the promises use: sets, messages, SEND, BROADCAST, INSTALL and DECIDE. */
public final class TermsTest {
    private static final Checks CHECKS = new Checks();

    public static void main(String[] args) {
        highestBitIsUsed();
        allSixteen();
        thirtyTwoSlots();
        freeSlotOfEveryKind();
        lowestFreeSlot();
        sentToNobody();
        sentToNobodyWithAFullPool();
        broadcastToTheMembers();
        installByWelcome();
        installByVotes();
        installByAccepted();
        joinThenRemoval();
        decideRemovalsAndJoins();
        deciderInTheCut();
        nobodyIsLeft();
        CHECKS.end();
    }

    /** "bit i stands for process i, and only bits 0..15 are used." */
    private static void highestBitIsUsed() {
        CutDetectMember c = new CutDetectMember(15, 2, 1, 1);
        Drive.castVotes(c, 15, Drive.range(0, 15));
        CHECKS.due("proposalOf(0)", c.proposalOf(0), 0x8000);
        for (int q = 0; q < 12; q++) {
            Drive.give(c, CutDetectMember.VOTE, q, 14);
        }
        CHECKS.installed("15 joins", c, 14, 1, 0xFFFF, 0x8000);
        int welcome = Drive.find(c, CutDetectMember.WELCOME, 14);
        CHECKS.message("welcome", c, welcome, CutDetectMember.WELCOME, 14, 1, 0xFFFF, 0x8000, 0, 0x8000);
        Drive.must(c.deliver(welcome, 15), "the welcome of 15");
        CHECKS.installed("welcomed", c, 15, 1, 0xFFFF, 0x8000);
        CHECKS.due("status(15)", c.status(15), CutDetectMember.ST_MEMBER);
    }

    private static void allSixteen() {
        CutDetectMember c = new CutDetectMember(16, 2, 1, 1);
        CHECKS.due("fallback(15)", c.fallback(15), true);
        CHECKS.message("to all", c, 0, CutDetectMember.PREPARE, 15, 0, 31, 0, 0, 0xFFFF);
        int dest = 0xFFFF;
        for (int p = 0; p < 15; p++) {
            Drive.must(c.drop(0, p), "drop");
            dest -= 1 << p;
            CHECKS.due("without 0.." + p, c.msg(0, CutDetectMember.F_DEST), dest);
        }
        CHECKS.due("15 alone", c.msg(0, CutDetectMember.F_DEST), 0x8000);
    }

    /** "There are SLOTS slots." */
    private static void thirtyTwoSlots() {
        CutDetectMember c = new CutDetectMember(3, 2, 1, 1);
        for (int slot = 0; slot < 32; slot++) {
            CHECKS.due("fallback(2)", c.fallback(2), true);
            CHECKS.message("round " + slot, c, slot, CutDetectMember.PREPARE, 2, 0, 16 * slot + 18, 0, 0, 7);
        }
        CHECKS.refused("a thirty-third message", c, () -> c.fallback(2));
    }

    /** "A slot is free if and only if dest == 0, and all fields of a free slot read 0." */
    private static void freeSlotOfEveryKind() {
        for (int kind = CutDetectMember.ALERT; kind <= CutDetectMember.WELCOME; kind++) {
            for (int way = 0; way < 2; way++) {
                CutDetectMember c = new CutDetectMember(5, 2, 1, 1);
                int slot = oneOfKind(c, kind);
                Drive.must(c.crash(3), "crash(3)");
                Drive.dropForOthers(c, slot, 3);
                CHECKS.due("kind before", c.msg(slot, CutDetectMember.F_KIND), kind);
                CHECKS.due("dest before", c.msg(slot, CutDetectMember.F_DEST), 8);
                Drive.must(way == 0 ? c.deliver(slot, 3) : c.drop(slot, 3), "the last receiver");
                CHECKS.freeSlot("kind " + kind + " is gone", c, slot);
            }
        }
    }

    /** A message of this kind that 3 has yet to receive. */
    private static int oneOfKind(CutDetectMember c, int kind) {
        if (kind == CutDetectMember.WELCOME) {
            Drive.decideFast(c, 1, 3);
            return Drive.find(c, kind, 1);
        }
        Drive.castVotes(c, 4, 0, 1, 2, 3, 4);
        return Drive.pending(c, kind, 1, 3, 0, 1, 2);
    }

    /** "Otherwise the lowest free slot gets kind, src = p, cfg = cfg(p), x, y, z and dest = D." */
    private static void lowestFreeSlot() {
        CutDetectMember c = new CutDetectMember(5, 2, 2, 1);
        Drive.fillPool(c, 0);
        for (int slot : new int[] {31, 5, 0, 18}) {
            Drive.dropSlot(c, slot);
        }
        for (int slot : new int[] {0, 5, 18, 31}) {
            int[] slots = Checks.slotSnapshot(c);
            CHECKS.due("observe(1, 4)", c.observe(1, 4), true);
            int[] message = {CutDetectMember.ALERT, 1, 0, 4, 2, 0, 31};
            System.arraycopy(message, 0, slots, slot * 7, 7);
            CHECKS.same("slot " + slot + " alone is taken", Checks.slotSnapshot(c), slots);
        }
    }

    /** "If D == 0, nothing happens.": a decider that alone is in the cut welcomes nobody. */
    private static void sentToNobody() {
        CutDetectMember fast = new CutDetectMember(5, 2, 1, 1);
        Drive.castVotes(fast, 4, 0, 1, 2, 3);
        for (int q = 0; q < 3; q++) {
            Drive.give(fast, CutDetectMember.VOTE, q, 4);
        }
        CHECKS.unanswered("the fourth vote", fast, Drive.find(fast, CutDetectMember.VOTE, 3), 4);
        CHECKS.installed("4 decides its removal", fast, 4, 1, 15, 16);

        CutDetectMember classic = new CutDetectMember(5, 2, 1, 1);
        Drive.castVotes(classic, 4, 0);
        Drive.acceptSent(classic, 0, 0, 1, 2);
        Drive.give(classic, CutDetectMember.ACCEPT, 0, 0, 1, 2);
        Drive.give(classic, CutDetectMember.ACCEPTED, 0, 4);
        Drive.give(classic, CutDetectMember.ACCEPTED, 1, 4);
        CHECKS.unanswered("the third accepted", classic, Drive.find(classic, CutDetectMember.ACCEPTED, 2), 4);
        CHECKS.installed("4 decides its removal", classic, 4, 1, 15, 16);
    }

    private static void sentToNobodyWithAFullPool() {
        CutDetectMember c = new CutDetectMember(5, 2, 1, 1);
        Drive.castVotes(c, 4, 0, 1, 2, 3);
        for (int q = 0; q < 3; q++) {
            Drive.give(c, CutDetectMember.VOTE, q, 4);
        }
        Drive.dropForOthers(c, Drive.find(c, CutDetectMember.VOTE, 3), 4);
        Drive.fillPool(c, 0);
        int slot = Drive.find(c, CutDetectMember.VOTE, 3);
        CHECKS.unanswered("the fourth vote", c, slot, 4);
        CHECKS.installed("4 decides its removal", c, 4, 1, 15, 16);
        CHECKS.freeSlot("the freed slot stays free", c, slot);
    }

    /** "BROADCAST(p,kind,x,y,z) is SEND with D = mem(p), which includes p if p is a member." */
    private static void broadcastToTheMembers() {
        CutDetectMember c = new CutDetectMember(5, 2, 1, 1);
        Drive.castVotes(c, 9, 0, 1, 2, 3, 4);
        for (int q = 0; q < 4; q++) {
            Drive.give(c, CutDetectMember.VOTE, q, 0, 1, 2, 3);
        }
        Drive.dropAll(c);
        int members = Drive.mask(0, 1, 2, 3, 4, 9);
        Drive.castVotes(c, 1, 0, 1, 2, 3);
        Drive.acceptSent(c, 0, 0, 1, 2, 3);
        Drive.give(c, CutDetectMember.ACCEPT, 0, 3);
        Drive.must(c.fallback(1), "fallback(1)");
        Drive.alertBy(c, 2);
        int[][] sent = {
            {CutDetectMember.VOTE, 3}, {CutDetectMember.ACCEPTED, 3}, {CutDetectMember.PREPARE, 1},
            {CutDetectMember.ALERT, 2},
        };
        for (int[] kindAndSource : sent) {
            int slot = Drive.find(c, kindAndSource[0], kindAndSource[1]);
            String what = "kind " + kindAndSource[0];
            CHECKS.due(what + ", dest", c.msg(slot, CutDetectMember.F_DEST), members);
            CHECKS.due(what + ", cfg", c.msg(slot, CutDetectMember.F_CFG), 1);
        }
        int accept = Drive.find(c, CutDetectMember.ACCEPT, 0);
        CHECKS.due("accept, dest without 3", c.msg(accept, CutDetectMember.F_DEST), members - 8);
        CHECKS.due("one that is behind sends to its own", c.fallback(4), true);
        int prepare = Drive.find(c, CutDetectMember.PREPARE, 4);
        CHECKS.message("prepare of 4", c, prepare, CutDetectMember.PREPARE, 4, 0, 20, 0, 0, 31);
    }

    /** All per-configuration state of 3 differs from its fresh values; 0 has decided that 4 leaves. */
    private static CutDetectMember deepInARound() {
        CutDetectMember c = new CutDetectMember(5, 2, 1, 1);
        Drive.castVotes(c, 4, 0, 1, 2, 3, 4);
        Drive.acceptSent(c, 0, 0, 1, 2);
        Drive.give(c, CutDetectMember.ACCEPT, 0, 0, 1, 2, 3);
        Drive.give(c, CutDetectMember.ACCEPTED, 0, 3);
        Drive.give(c, CutDetectMember.ACCEPTED, 1, 3);
        Drive.prepared(c, 3, 2, 3);
        Drive.promisesTo(c, 3, 2, 3);
        for (int q = 0; q < 3; q++) {
            Drive.give(c, CutDetectMember.VOTE, q, 3);
            CHECKS.due("voteOf(3, " + q + ")", c.voteOf(3, q), 16);
        }
        CHECKS.due("reportCount(3, 4)", c.reportCount(3, 4), 1);
        CHECKS.due("proposalOf(3)", c.proposalOf(3), 16);
        CHECKS.rounds("deep in a round", c, 3, 35, 16, 16, 35, 1, 16, 2, 2);
        return c;
    }

    /** "puts all per-configuration state of p back to fresh values." */
    private static void installByWelcome() {
        CutDetectMember c = deepInARound();
        for (int q = 0; q < 4; q++) {
            Drive.give(c, CutDetectMember.VOTE, q, 0);
        }
        Drive.must(c.fallback(3), "fallback(3)");
        Drive.give(c, CutDetectMember.PREPARE, 3, 0);
        CHECKS.unanswered("welcome", c, Drive.find(c, CutDetectMember.WELCOME, 0, 8), 3);
        CHECKS.installed("welcomed", c, 3, 1, 15, 16);
    }

    private static void installByVotes() {
        CutDetectMember c = deepInARound();
        int slot = Drive.find(c, CutDetectMember.VOTE, 3);
        CHECKS.answered("fourth vote", c, slot, 3, CutDetectMember.WELCOME, 3, 1, 15, 16, 0, 16);
        CHECKS.installed("decided by votes", c, 3, 1, 15, 16);
    }

    private static void installByAccepted() {
        CutDetectMember c = deepInARound();
        int slot = Drive.find(c, CutDetectMember.ACCEPTED, 2);
        CHECKS.answered("third accepted", c, slot, 3, CutDetectMember.WELCOME, 3, 1, 15, 16, 0, 16);
        CHECKS.installed("decided by accepted", c, 3, 1, 15, 16);
        // The rounds of the new configuration begin anew.
        CHECKS.due("fallback(3)", c.fallback(3), true);
        CHECKS.rounds("first round", c, 3, 0, -1, 0, 19, 1, 0, 0, 0);
    }

    /** "That message carries the new cfg(p).": 7 joins, and leaves by the same cut. */
    private static void joinThenRemoval() {
        CutDetectMember c = new CutDetectMember(5, 2, 1, 1);
        Drive.castVotes(c, 7, 0, 1, 2, 3, 4);
        for (int q = 0; q < 4; q++) {
            Drive.give(c, CutDetectMember.VOTE, q, 0, 1, 2, 3, 4);
        }
        Drive.give(c, CutDetectMember.WELCOME, 0, 7);
        Drive.dropAll(c);
        for (int p : new int[] {0, 1, 2, 3, 4, 7}) {
            CHECKS.installed("7 joins", c, p, 1, 159, 128);
        }
        Drive.castVotes(c, 7, 0, 1, 2, 3, 4, 7);
        for (int q = 0; q < 4; q++) {
            Drive.give(c, CutDetectMember.VOTE, q, 2);
        }
        int slot = Drive.find(c, CutDetectMember.VOTE, 7);
        CHECKS.answered("fifth vote of six", c, slot, 2, CutDetectMember.WELCOME, 2, 2, 31, 128, 0, 128);
        CHECKS.installed("7 leaves", c, 2, 2, 31, 128);
    }

    /** "It then does SEND(p, WELCOME, mem(p), C, 0, C without p), using the new values." */
    private static void decideRemovalsAndJoins() {
        // H = 2 and L = 1: 4 and 3 become stable together; 5 joins with them.
        CutDetectMember c = new CutDetectMember(5, 2, 2, 1);
        int[][] alerts = {{0, 4}, {4, 3}, {0, 5}, {1, 4}, {0, 3}, {2, 5}};
        for (int[] alert : alerts) {
            Drive.must(c.observe(alert[0], alert[1]), "observe");
            Drive.give(c, CutDetectMember.ALERT, alert[0], 0, 1, 2, 3, 4);
        }
        for (int q = 0; q < 3; q++) {
            Drive.give(c, CutDetectMember.VOTE, q, 1, 4);
        }
        int slot = Drive.find(c, CutDetectMember.VOTE, 3);
        CHECKS.answered("decider that stays", c, slot, 1, CutDetectMember.WELCOME, 1, 1, 39, 56, 0, 56);
        CHECKS.installed("decider that stays", c, 1, 1, Drive.mask(0, 1, 2, 5), Drive.mask(3, 4, 5));
    }

    /** "C without p" */
    private static void deciderInTheCut() {
        CutDetectMember c = new CutDetectMember(5, 2, 2, 1);
        int[][] alerts = {{0, 4}, {4, 3}, {1, 4}, {0, 3}};
        for (int[] alert : alerts) {
            Drive.must(c.observe(alert[0], alert[1]), "observe");
            Drive.give(c, CutDetectMember.ALERT, alert[0], 0, 1, 2, 3, 4);
        }
        for (int q = 0; q < 3; q++) {
            Drive.give(c, CutDetectMember.VOTE, q, 4);
        }
        int slot = Drive.find(c, CutDetectMember.VOTE, 3);
        CHECKS.answered("decider that leaves", c, slot, 4, CutDetectMember.WELCOME, 4, 1, 7, 24, 0, 8);
        CHECKS.installed("decider that leaves", c, 4, 1, 7, 24);
        CHECKS.due("4 is out", c.status(4), CutDetectMember.ST_OUT);
    }

    /** "Installing cut C turns M into M ^ C.": the empty set too. */
    private static void nobodyIsLeft() {
        CutDetectMember c = Drive.allToLeave();
        Drive.give(c, CutDetectMember.VOTE, 0, 1);
        Drive.give(c, CutDetectMember.VOTE, 1, 1);
        int vote = Drive.find(c, CutDetectMember.VOTE, 2);
        CHECKS.answered("all leave", c, vote, 1, CutDetectMember.WELCOME, 1, 1, 0, 7, 0, 5);
        CHECKS.installed("all leave", c, 1, 1, 0, 7);
        CHECKS.unanswered("welcome to nothing", c, Drive.find(c, CutDetectMember.WELCOME, 1), 0);
        CHECKS.installed("welcomed to nothing", c, 0, 1, 0, 7);
        for (int p = 0; p < 2; p++) {
            int last = p;
            CHECKS.due("status(" + p + ")", c.status(p), CutDetectMember.ST_OUT);
            CHECKS.refused("fallback(" + p + ")", c, () -> c.fallback(last));
            CHECKS.refused("observe(" + p + ", 2)", c, () -> c.observe(last, 2));
        }
        // 2 still believes in three members, and nobody who knows better answers it.
        CHECKS.due("fallback(2)", c.fallback(2), true);
        CHECKS.withoutEffect("prepare of 2", c, Drive.find(c, CutDetectMember.PREPARE, 2), 1);
    }
}
