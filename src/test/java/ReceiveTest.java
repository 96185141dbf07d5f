/** Promise 5: the rules of RECEIVE that come before those by kind, each with every kind that can meet it. */
public final class ReceiveTest {
    private static final Checks CHECKS = new Checks();
    private static final int[] FIVE = {0, 1, 2, 3, 4};

    public static void main(String[] args) {
        crashedMember();
        crashedOneThatIsAhead();
        crashedOneIsNotWelcomed();
        welcomeToAMember();
        welcomeToAnOutsider();
        welcomeToTheRemoved();
        welcomeOverSeveralConfigurations();
        welcomeToTheSameConfiguration();
        welcomeToAnOlderConfiguration();
        outsiderAndOldMessages();
        outsiderAndNewerMessages();
        oldMessageOfAnother();
        oldMessageOfTheRemoved();
        ownOldMessage();
        newerMessage();
        CHECKS.end();
    }

    /** All five have voted for the cut {s}; a message of this kind from q waits for p. */
    private static CutDetectMember waiting(int kind, int q, int p, int s) {
        CutDetectMember c = new CutDetectMember(5, 2, 1, 1);
        Drive.castVotes(c, s, FIVE);
        Drive.pending(c, kind, q, p, FIVE);
        return c;
    }

    /** The same, and p has decided the cut without the vote of q. */
    private static CutDetectMember waitingAndDecided(int kind, int q, int p, int s) {
        CutDetectMember c = waiting(kind, q, p, s);
        for (int voter : FIVE) {
            if (voter != q) {
                Drive.give(c, CutDetectMember.VOTE, voter, p);
            }
        }
        Drive.must(c.configOf(p) == 1, "deciding");
        return c;
    }

    /** "If crashed(p): nothing." */
    private static void crashedMember() {
        for (int kind = CutDetectMember.ALERT; kind <= CutDetectMember.ACCEPTED; kind++) {
            CutDetectMember c = waiting(kind, 1, 3, 4);
            Drive.must(c.crash(3), "crash(3)");
            CHECKS.withoutEffect("kind " + kind + " to a crashed one", c, Drive.find(c, kind, 1, 8), 3);
        }
    }

    /** "If crashed(p): nothing.": it comes before the welcome that an old message would bring. */
    private static void crashedOneThatIsAhead() {
        for (int kind = CutDetectMember.ALERT; kind <= CutDetectMember.ACCEPTED; kind++) {
            CutDetectMember c = waitingAndDecided(kind, 1, 3, 4);
            Drive.must(c.crash(3), "crash(3)");
            CHECKS.withoutEffect("old kind " + kind + " to a crashed one", c, Drive.find(c, kind, 1, 8), 3);
        }
    }

    /** "If crashed(p): nothing.": it comes before the rule of WELCOME. */
    private static void crashedOneIsNotWelcomed() {
        for (int s : new int[] {4, 15}) {
            CutDetectMember c = new CutDetectMember(5, 2, 1, 1);
            Drive.decideFast(c, 0, s);
            Drive.must(c.crash(s), "crash(" + s + ")");
            CHECKS.withoutEffect("a welcome", c, Drive.find(c, CutDetectMember.WELCOME, 0), s);
        }
    }

    /** "if the message's cfg > cfg(p), do INSTALL(p, the message's cfg, the message's x, the message's y)" */
    private static void welcomeToAMember() {
        CutDetectMember c = waitingAndDecided(CutDetectMember.PREPARE, 1, 3, 4);
        Drive.give(c, CutDetectMember.PREPARE, 1, 3);
        int welcome = Drive.find(c, CutDetectMember.WELCOME, 3, 2);
        CHECKS.unanswered("a welcome to one that is behind", c, welcome, 1);
        CHECKS.installed("brought forward", c, 1, 1, 15, 16);
        CHECKS.due("status(1)", c.status(1), CutDetectMember.ST_MEMBER);
        CHECKS.freeSlot("the welcome is used up", c, welcome);
    }

    /** "This rule applies whatever p's status is, as long as p is not crashed." */
    private static void welcomeToAnOutsider() {
        CutDetectMember c = new CutDetectMember(5, 2, 1, 1);
        Drive.decideFast(c, 0, 7);
        CHECKS.due("7 is out", c.status(7), CutDetectMember.ST_OUT);
        int welcome = Drive.find(c, CutDetectMember.WELCOME, 0);
        CHECKS.message("welcome to the joiner", c, welcome, CutDetectMember.WELCOME, 0, 1, 159, 128, 0, 128);
        CHECKS.unanswered("a welcome to an outsider", c, welcome, 7);
        CHECKS.installed("welcomed", c, 7, 1, 159, 128);
        CHECKS.due("7 is a member", c.status(7), CutDetectMember.ST_MEMBER);
    }

    private static void welcomeToTheRemoved() {
        CutDetectMember c = new CutDetectMember(5, 2, 1, 1);
        Drive.decideFast(c, 0, 4);
        CHECKS.unanswered("a welcome to the removed", c, Drive.find(c, CutDetectMember.WELCOME, 0), 4);
        CHECKS.installed("told of its removal", c, 4, 1, 15, 16);
        CHECKS.due("4 is out", c.status(4), CutDetectMember.ST_OUT);
    }

    /** 0 welcomes 3 to configuration 1 (slot 2) and to configuration 2 (slot 3). */
    private static CutDetectMember welcomedTwice() {
        CutDetectMember c = Drive.ahead(5, 4, 0, 1, 2);
        Drive.must(c.fallback(3) && c.fallback(3) && c.deliver(0, 0), "the prepares of 3");
        CHECKS.message("welcome to 1", c, 2, CutDetectMember.WELCOME, 0, 1, 15, 16, 0, 8);
        Drive.castVotes(c, 5, 0, 1, 2);
        for (int q = 0; q < 3; q++) {
            Drive.give(c, CutDetectMember.VOTE, q, 0);
        }
        Drive.dropKind(c, CutDetectMember.VOTE);
        Drive.dropSlot(c, Drive.find(c, CutDetectMember.WELCOME, 0, 1 << 5));
        CHECKS.installed("second configuration", c, 0, 2, 47, 32);
        Drive.must(c.deliver(1, 0), "the second prepare");
        CHECKS.message("welcome to 2", c, 3, CutDetectMember.WELCOME, 0, 2, 47, 32, 0, 8);
        return c;
    }

    private static void welcomeOverSeveralConfigurations() {
        CutDetectMember c = welcomedTwice();
        CHECKS.unanswered("the newer welcome first", c, 3, 3);
        CHECKS.installed("3 skips a configuration", c, 3, 2, 47, 32);
        CutDetectMember inOrder = welcomedTwice();
        CHECKS.unanswered("the older welcome first", inOrder, 2, 3);
        CHECKS.installed("first step", inOrder, 3, 1, 15, 16);
        CHECKS.unanswered("the newer welcome then", inOrder, 3, 3);
        CHECKS.installed("second step", inOrder, 3, 2, 47, 32);
    }

    /** "otherwise nothing.": the message's cfg is equal to cfg(p). */
    private static void welcomeToTheSameConfiguration() {
        // Both 0 and 1 decide that 7 joins, and both welcome it; the same with the removed 4.
        for (int s : new int[] {7, 4}) {
            CutDetectMember c = new CutDetectMember(5, 2, 1, 1);
            Drive.castVotes(c, s, 0, 1, 2, 3);
            for (int q = 0; q < 4; q++) {
                Drive.give(c, CutDetectMember.VOTE, q, 0, 1);
            }
            Drive.give(c, CutDetectMember.WELCOME, 0, s);
            if (s == 7) {
                Drive.must(c.fallback(7), "fallback(7)");
            }
            CHECKS.withoutEffect("a second welcome", c, Drive.find(c, CutDetectMember.WELCOME, 1), s);
        }
    }

    /** "otherwise nothing.": the message's cfg is below cfg(p); it is not answered as other old messages are. */
    private static void welcomeToAnOlderConfiguration() {
        CutDetectMember c = welcomedTwice();
        Drive.must(c.deliver(3, 3) && c.fallback(3), "the newer welcome");
        CHECKS.withoutEffect("the older welcome", c, 2, 3);
    }

    /** "If status(p) == OUT: nothing.": it comes before the welcome that an old message would bring. */
    private static void outsiderAndOldMessages() {
        for (int kind = CutDetectMember.ALERT; kind <= CutDetectMember.ACCEPTED; kind++) {
            CutDetectMember c = waitingAndDecided(kind, 1, 4, 4);
            CHECKS.due("4 is out", c.status(4), CutDetectMember.ST_OUT);
            CHECKS.withoutEffect("old kind " + kind + " to the removed", c, Drive.find(c, kind, 1, 16), 4);
        }
    }

    /** "If status(p) == OUT: nothing.": a joiner that has not had its welcome. */
    private static void outsiderAndNewerMessages() {
        for (int kind : new int[] {1, 2, 3, 5, 6}) {
            CutDetectMember c = Drive.ahead(4, 7, 0, 1, 2);
            Drive.castVotes(c, 9, 0, 1, 2);
            int slot = Drive.pending(c, kind, 1, 7, 0, 1, 2);
            CHECKS.due("sent in configuration 1", c.msg(slot, CutDetectMember.F_CFG), 1);
            CHECKS.due("7 is out", c.status(7), CutDetectMember.ST_OUT);
            CHECKS.withoutEffect("newer kind " + kind + " to an outsider", c, slot, 7);
        }
    }

    /** "If the message's cfg < cfg(p): if q != p, do SEND(p, WELCOME, mem(p), lastCut(p), 0, {q})" */
    private static void oldMessageOfAnother() {
        for (int kind = CutDetectMember.ALERT; kind <= CutDetectMember.ACCEPTED; kind++) {
            CutDetectMember c = waitingAndDecided(kind, 1, 3, 4);
            int[] before = Checks.processSnapshot(c);
            int slot = Drive.find(c, kind, 1, 8);
            CHECKS.answered("old kind " + kind, c, slot, 3, CutDetectMember.WELCOME, 3, 1, 15, 16, 0, 2);
            CHECKS.same("old kind " + kind + " changes no process", Checks.processSnapshot(c), before);
        }
    }

    /** The welcome goes to q also where q is no member of the new configuration. */
    private static void oldMessageOfTheRemoved() {
        for (int kind = CutDetectMember.ALERT; kind <= CutDetectMember.ACCEPTED; kind++) {
            CutDetectMember c = waitingAndDecided(kind, 4, 3, 4);
            int[] before = Checks.processSnapshot(c);
            int slot = Drive.find(c, kind, 4, 8);
            CHECKS.answered("old kind " + kind, c, slot, 3, CutDetectMember.WELCOME, 3, 1, 15, 16, 0, 16);
            CHECKS.same("old kind " + kind + " changes no process", Checks.processSnapshot(c), before);
        }
    }

    /** "otherwise nothing.": q == p. */
    private static void ownOldMessage() {
        for (int kind = CutDetectMember.ALERT; kind <= CutDetectMember.ACCEPTED; kind++) {
            CutDetectMember c = waitingAndDecided(kind, 3, 3, 4);
            CHECKS.withoutEffect("its own old kind " + kind, c, Drive.find(c, kind, 3, 8), 3);
        }
    }

    /** "If the message's cfg > cfg(p): nothing." A promise goes to one that is not behind its sender. */
    private static void newerMessage() {
        for (int kind : new int[] {1, 2, 3, 5, 6}) {
            CutDetectMember c = Drive.ahead(5, 4, 0, 1, 2);
            Drive.castVotes(c, 9, 0, 1, 2);
            int slot = Drive.pending(c, kind, 1, 3, 0, 1, 2);
            CHECKS.due("sent in configuration 1", c.msg(slot, CutDetectMember.F_CFG), 1);
            CHECKS.due("3 is a member", c.status(3), CutDetectMember.ST_MEMBER);
            CHECKS.withoutEffect("newer kind " + kind, c, slot, 3);
        }
    }
}
