import java.lang.reflect.Field;
import java.util.Arrays;

/**
 * Sentences about cases that the public calls can't bring about. The test writes messages that nobody
 * has sent straight into the private array of the slots. The document leaves free how the slots are
 * stored, so a class that stores them otherwise is not wrong, and this test then says that it did not run.
 */
public final class ForcedTest {
    private static final Checks CHECKS = new Checks();

    public static void main(String[] args) throws ReflectiveOperationException {
        if (!slotsAreWhereTheTestWrites()) {
            System.out.println("not run: the slots are stored in another way than this test knows");
            return;
        }
        secondVote();
        votesOfOthersThanMembers();
        secondPromise();
        promisesOfOthersThanMembers();
        tieOfClassicRounds();
        roundBelowTheClassicOnes();
        classicValueOfAnyKind();
        valueWithoutAVoteDoesNotCount();
        fastValueOfAnyKind();
        acceptIsLost();
        acceptedTwiceByOne();
        valueOfTheFirstAccepted();
        acceptedOfRoundZero();
        learnedValueIsFreshAgain();
        countIsMasked();
        configurationsWrapAround();
        destinationsAreMasked();
        outsiderAndItsOwnConfiguration();
        newerPromise();
        CHECKS.end();
    }

    /** The array that holds the slots, or an empty one if there is none of that name. */
    private static int[] slotsOf(CutDetectMember c) throws ReflectiveOperationException {
        for (Field field : CutDetectMember.class.getDeclaredFields()) {
            if (field.getName().equals("slots") && field.getType() == int[].class) {
                field.setAccessible(true);
                return (int[]) field.get(c);
            }
        }
        return new int[0];
    }

    /** A sent message is read off the array, and one written into it is delivered. */
    private static boolean slotsAreWhereTheTestWrites() throws ReflectiveOperationException {
        CutDetectMember c = new CutDetectMember(5, 2, 2, 2);
        Drive.must(c.fallback(1), "fallback(1)");
        if (!Arrays.equals(slotsOf(c), Checks.slotSnapshot(c))) {
            return false;
        }
        System.arraycopy(new int[] {CutDetectMember.ALERT, 0, 0, 4, 1, 0, 8}, 0, slotsOf(c), 7, 7);
        return c.deliver(1, 3) && c.reportCount(3, 4) == 1;
    }

    /** Puts the message into a free slot and answers its number. */
    private static int put(CutDetectMember c, int... fields) throws ReflectiveOperationException {
        int slot = 0;
        while (c.msg(slot, CutDetectMember.F_DEST) != 0) {
            slot++;
        }
        System.arraycopy(fields, 0, slotsOf(c), slot * 7, 7);
        CHECKS.message("put", c, slot, fields);
        return slot;
    }

    private static int vote(CutDetectMember c, int q, int cut, int p) throws ReflectiveOperationException {
        return put(c, CutDetectMember.VOTE, q, c.configOf(p), cut, 0, 0, 1 << p);
    }

    private static int promise(CutDetectMember c, int q, int accRnd, int accVal, int p)
            throws ReflectiveOperationException {
        int round = c.paxos(p, CutDetectMember.P_CRND);
        return put(c, CutDetectMember.PROMISE, q, c.configOf(p), round, accRnd, accVal, 1 << p);
    }

    private static int accepted(CutDetectMember c, int q, int round, int value, int p)
            throws ReflectiveOperationException {
        return put(c, CutDetectMember.ACCEPTED, q, c.configOf(p), round, value, 0, 1 << p);
    }

    /** A cluster of five in which 2 collects promises of round 18, and has been sent none. */
    private static CutDetectMember collecting() {
        CutDetectMember c = new CutDetectMember(5, 2, 1, 1);
        Drive.must(c.fallback(2), "fallback(2)");
        Drive.dropAll(c);
        return c;
    }

    /** Three promises, each told as q, accRnd, accVal, make 2 send its accept with this value. */
    private static void chosen(String what, CutDetectMember c, int value, int[]... promises)
            throws ReflectiveOperationException {
        for (int i = 0; i < 2; i++) {
            int[] told = promises[i];
            CHECKS.unanswered(what, c, promise(c, told[0], told[1], told[2], 2), 2);
        }
        int slot = promise(c, promises[2][0], promises[2][1], promises[2][2], 2);
        CHECKS.answered(what, c, slot, 2, CutDetectMember.ACCEPT, 2, 0, 18, value, 0, 31);
    }

    /** "If vote(p,q) was already set, nothing changes." */
    private static void secondVote() throws ReflectiveOperationException {
        CutDetectMember c = new CutDetectMember(5, 2, 1, 1);
        CHECKS.unanswered("first", c, vote(c, 3, 16, 1), 1);
        CHECKS.due("voteOf(1, 3)", c.voteOf(1, 3), 16);
        CHECKS.withoutEffect("another cut", c, vote(c, 3, 8, 1), 1);
        for (int i = 0; i < 4; i++) {
            CHECKS.withoutEffect("the same cut", c, vote(c, 3, 16, 1), 1);
        }
        CHECKS.unanswered("second voter", c, vote(c, 4, 16, 1), 1);
        CHECKS.unanswered("third voter", c, vote(c, 0, 16, 1), 1);
        // The votes that are known would do if a second one of 3 were counted, or looked at again.
        CHECKS.withoutEffect("the same cut", c, vote(c, 3, 16, 1), 1);
        CHECKS.answered("fourth", c, vote(c, 1, 16, 1), 1, CutDetectMember.WELCOME, 1, 1, 15, 16, 0, 16);
    }

    /** "(any q in 0..15, no membership test)" */
    private static void votesOfOthersThanMembers() throws ReflectiveOperationException {
        CutDetectMember c = new CutDetectMember(5, 2, 1, 1);
        for (int q : new int[] {15, 5, 9}) {
            CHECKS.unanswered("vote of " + q, c, vote(c, q, 16, 1), 1);
            CHECKS.due("voteOf(1, " + q + ")", c.voteOf(1, q), 16);
        }
        CHECKS.answered("fourth", c, vote(c, 12, 16, 1), 1, CutDetectMember.WELCOME, 1, 1, 15, 16, 0, 16);
    }

    /** "q is not in prom(p)": a second promise neither counts nor changes what the first one told. */
    private static void secondPromise() throws ReflectiveOperationException {
        CutDetectMember c = collecting();
        CHECKS.unanswered("first", c, promise(c, 4, 17, 2, 2), 2);
        CHECKS.withoutEffect("a greater round", c, promise(c, 4, 20, 8, 2), 2);
        CHECKS.withoutEffect("nothing accepted", c, promise(c, 4, -1, 0, 2), 2);
        CHECKS.unanswered("second promiser", c, promise(c, 0, 16, 4, 2), 2);
        CHECKS.withoutEffect("a greater round", c, promise(c, 0, 20, 8, 2), 2);
        int slot = promise(c, 1, -1, 0, 2);
        CHECKS.answered("third", c, slot, 2, CutDetectMember.ACCEPT, 2, 0, 18, 2, 0, 31);
    }

    private static void promisesOfOthersThanMembers() throws ReflectiveOperationException {
        chosen("9, 15 and 5", collecting(), 4, new int[][] {{9, -1, 0}, {15, 0, 8}, {5, 0, 4}});
    }

    /** "v is the pv of the least q among those with the greatest pr" */
    private static void tieOfClassicRounds() throws ReflectiveOperationException {
        chosen("in order", collecting(), 4, new int[][] {{0, 16, 1}, {1, 32, 4}, {3, 32, 8}});
        chosen("backwards", collecting(), 4, new int[][] {{3, 32, 8}, {1, 32, 4}, {0, 16, 1}});
        chosen("the last first", collecting(), 2, new int[][] {{4, 17, 8}, {0, 17, 2}, {3, 17, 4}});
    }

    /** "(a) Some pr >= 16", missed by one; nor is it 0, so that neither (b) nor (c) holds. */
    private static void roundBelowTheClassicOnes() throws ReflectiveOperationException {
        CutDetectMember idle = collecting();
        CHECKS.unanswered("first", idle, promise(idle, 0, 15, 4, 2), 2);
        CHECKS.unanswered("second", idle, promise(idle, 1, 15, 4, 2), 2);
        CHECKS.unanswered("third", idle, promise(idle, 3, 1, 4, 2), 2);
        CHECKS.rounds("idle", idle, 2, 0, -1, 0, 18, 0, 0, 0, 3);
        chosen("16", collecting(), 8, new int[][] {{0, 15, 4}, {1, 16, 8}, {3, 15, 4}});
    }

    /** A recorded value is taken as it is, also one that elsewhere stands for none. */
    private static void classicValueOfAnyKind() throws ReflectiveOperationException {
        chosen("0", collecting(), 0, new int[][] {{0, 16, 0}, {1, 0, 4}, {3, 0, 4}});
        chosen("-1", collecting(), -1, new int[][] {{0, 0, 4}, {1, 0, 4}, {3, 16, -1}});
    }

    /** "the q with pr == 0 and pv == w" */
    private static void valueWithoutAVoteDoesNotCount() throws ReflectiveOperationException {
        chosen("pr is -1", collecting(), 4, new int[][] {{0, 0, 4}, {1, 0, 8}, {3, -1, 8}});
        chosen("pr is 1", collecting(), 4, new int[][] {{0, 0, 4}, {1, 0, 8}, {3, 1, 8}});
        chosen("the least has no vote", collecting(), 8, new int[][] {{0, -1, 4}, {1, 0, 8}, {3, -1, 4}});
    }

    private static void fastValueOfAnyKind() throws ReflectiveOperationException {
        chosen("(b), 0", collecting(), 0, new int[][] {{0, 0, 4}, {1, 0, 0}, {3, 0, 0}});
        chosen("(b), -1", collecting(), -1, new int[][] {{0, 0, 4}, {1, 0, -1}, {3, 0, -1}});
        chosen("(c), -1", collecting(), -1, new int[][] {{1, 0, -1}, {3, 0, 4}, {4, -1, 0}});
        chosen("(c), 0", collecting(), 0, new int[][] {{1, 0, 0}, {3, 0, 4}, {4, -1, 0}});
    }

    /** "Any SEND or BROADCAST made by a rule is lost if no slot is free": the accept too. */
    private static void acceptIsLost() throws ReflectiveOperationException {
        CutDetectMember c = collecting();
        CHECKS.unanswered("first", c, promise(c, 0, 0, 4, 2), 2);
        CHECKS.unanswered("second", c, promise(c, 1, 0, 4, 2), 2);
        int slot = put(c, CutDetectMember.PROMISE, 3, 0, 18, -1, 0, 12);
        Drive.fillPool(c, 0);
        CHECKS.unanswered("third", c, slot, 2);
        CHECKS.rounds("the phase changes all the same", c, 2, 0, -1, 0, 18, 2, 0, 0, 3);
    }

    /** "add q to lset(p)": a set. */
    private static void acceptedTwiceByOne() throws ReflectiveOperationException {
        CutDetectMember c = new CutDetectMember(5, 2, 1, 1);
        CHECKS.unanswered("first", c, accepted(c, 3, 16, 4, 1), 1);
        for (int i = 0; i < 3; i++) {
            CHECKS.withoutEffect("again", c, accepted(c, 3, 16, 4, 1), 1);
        }
        CHECKS.rounds("one sender", c, 1, 0, -1, 0, 0, 0, 16, 1, 0);
    }

    /** "DECIDE(p, lval(p))": the value of the round as it was first heard. */
    private static void valueOfTheFirstAccepted() throws ReflectiveOperationException {
        CutDetectMember c = new CutDetectMember(5, 2, 1, 1);
        CHECKS.unanswered("first", c, accepted(c, 3, 16, 4, 1), 1);
        CHECKS.unanswered("second", c, accepted(c, 0, 16, 8, 1), 1);
        int slot = accepted(c, 4, 16, 8, 1);
        CHECKS.answered("third", c, slot, 1, CutDetectMember.WELCOME, 1, 1, 27, 4, 0, 4);
        CHECKS.installed("third", c, 1, 1, 27, 4);
    }

    /** "Else if x == lrnd(p)", both 0: the value is the fresh one, and an empty cut welcomes nobody. */
    private static void acceptedOfRoundZero() throws ReflectiveOperationException {
        CutDetectMember c = new CutDetectMember(5, 2, 1, 1);
        CHECKS.withoutEffect("round -1", c, accepted(c, 3, -1, 4, 1), 1);
        CHECKS.unanswered("first", c, accepted(c, 3, 0, 4, 1), 1);
        CHECKS.unanswered("second", c, accepted(c, 0, 0, 4, 1), 1);
        CHECKS.rounds("two senders", c, 1, 0, -1, 0, 0, 0, 0, 2, 0);
        CHECKS.unanswered("third", c, accepted(c, 4, 0, 4, 1), 1);
        CHECKS.installed("third", c, 1, 1, 31, 0);
    }

    /** "puts all per-configuration state of p back to fresh values.": lval(p) too. */
    private static void learnedValueIsFreshAgain() throws ReflectiveOperationException {
        CutDetectMember c = new CutDetectMember(5, 2, 1, 1);
        Drive.must(c.deliver(put(c, CutDetectMember.WELCOME, 0, 1, 2, 29, 0, 2), 1), "being the one member");
        Drive.must(c.deliver(accepted(c, 1, 16, 0x8000, 1), 1), "deciding that 15 joins");
        CHECKS.installed("decided", c, 1, 2, 0x8002, 0x8000);
        Drive.dropAll(c);
        CHECKS.unanswered("first", c, accepted(c, 1, 0, 4, 1), 1);
        CHECKS.unanswered("second", c, accepted(c, 15, 0, 4, 1), 1);
        CHECKS.installed("the fresh value", c, 1, 3, 0x8002, 0);
    }

    /** "count(x) is the number of 1 bits of (x & 0xFFFF)." */
    private static void countIsMasked() throws ReflectiveOperationException {
        CutDetectMember c = new CutDetectMember(5, 6, 6, 6);
        CHECKS.due("alert", c.deliver(put(c, CutDetectMember.ALERT, 1, 0, 4, 0x7FFF0003, 0, 1), 0), true);
        CHECKS.due("reportCount(0, 4)", c.reportCount(0, 4), 2);
        CHECKS.due("alert", c.deliver(put(c, CutDetectMember.ALERT, 1, 0, 3, -1, 0, 1), 0), true);
        CHECKS.due("reportCount(0, 3)", c.reportCount(0, 3), 16);
        CHECKS.due("welcome", c.deliver(put(c, CutDetectMember.WELCOME, 1, 1, 0x30002, 1, 0, 2), 1), true);
        CHECKS.due("one vote of one member", c.deliver(vote(c, 9, 4, 1), 1), true);
        CHECKS.due("configOf(1)", c.configOf(1), 2);
    }

    /** "All arithmetic is Java int arithmetic, wrapping as Java does.": cfg(p)+1. */
    private static void configurationsWrapAround() throws ReflectiveOperationException {
        CutDetectMember c = new CutDetectMember(5, 2, 1, 1);
        int greatest = Integer.MAX_VALUE;
        int least = Integer.MIN_VALUE;
        CHECKS.unanswered("welcome", c, put(c, CutDetectMember.WELCOME, 0, greatest, 2, 4, 0, 2), 1);
        CHECKS.installed("the greatest configuration", c, 1, greatest, 2, 4);
        int slot = vote(c, 1, 8, 1);
        CHECKS.answered("vote", c, slot, 1, CutDetectMember.WELCOME, 1, least, 10, 8, 0, 8);
        CHECKS.installed("past the greatest int", c, 1, least, 10, 8);
        CHECKS.withoutEffect("that welcome is not newer", c, Drive.find(c, CutDetectMember.WELCOME, 1), 3);
    }

    /** "First D = D & 0xFFFF. If D == 0, nothing happens." */
    private static void destinationsAreMasked() throws ReflectiveOperationException {
        CutDetectMember c = Drive.members(1);
        Drive.must(c.deliver(vote(c, 3, 0x7FFF0000, 0), 0), "a cut of no process");
        CHECKS.due("configOf(0)", c.configOf(0), 3);
        CHECKS.due("nothing is sent", Drive.usedSlots(c), 0);
        CutDetectMember d = Drive.members(1);
        Drive.must(d.deliver(vote(d, 3, 0x10010, 0), 0), "a cut of one process");
        CHECKS.due("dest", d.msg(Drive.find(d, CutDetectMember.WELCOME, 0), CutDetectMember.F_DEST), 16);
        Drive.must(d.fallback(0), "fallback(0)");
        CHECKS.due("dest", d.msg(Drive.find(d, CutDetectMember.PREPARE, 0), CutDetectMember.F_DEST), 17);
    }

    /** "If status(p) == OUT: nothing.": it comes before the rules by kind. */
    private static void outsiderAndItsOwnConfiguration() throws ReflectiveOperationException {
        for (int kind = CutDetectMember.ALERT; kind <= CutDetectMember.ACCEPTED; kind++) {
            CutDetectMember c = new CutDetectMember(5, 2, 1, 1);
            int x = kind == CutDetectMember.ALERT ? 4 : 17;
            CHECKS.withoutEffect("kind " + kind, c, put(c, kind, 1, 0, x, 1, 0, 1 << 9), 9);
        }
    }

    /** "If the message's cfg > cfg(p): nothing.": a promise too. */
    private static void newerPromise() throws ReflectiveOperationException {
        CutDetectMember c = collecting();
        CHECKS.withoutEffect("promise", c, put(c, CutDetectMember.PROMISE, 1, 1, 18, 0, 4, 4), 2);
    }
}
