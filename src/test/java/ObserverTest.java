/** Promise 15: observer. */
public final class ObserverTest {
    private static final Checks CHECKS = new Checks();

    /** The ids 0..15 in the order of their keys on each ring, worked out by hand. */
    private static final int[][] ORDER = {
        {5, 11, 0, 6, 12, 1, 7, 13, 2, 8, 14, 3, 9, 15, 4, 10},
        {6, 13, 3, 10, 0, 7, 14, 4, 11, 1, 8, 15, 5, 12, 2, 9},
        {4, 9, 14, 2, 7, 12, 0, 5, 10, 15, 3, 8, 13, 1, 6, 11},
        {1, 3, 5, 7, 9, 11, 13, 15, 0, 2, 4, 6, 8, 10, 12, 14},
        {13, 10, 7, 4, 1, 15, 12, 9, 6, 3, 0, 14, 11, 8, 5, 2},
        {3, 7, 11, 15, 2, 6, 10, 14, 1, 5, 9, 13, 0, 4, 8, 12},
    };

    public static void main(String[] args) {
        everyNumberOfMembers();
        ringsBeyondK();
        wrongProcess();
        wrongSubject();
        everyStatus();
        ownMembers();
        oneMember();
        twoMembers();
        noMember();
        CHECKS.end();
    }

    /** "the observer of subject s on ring r is the y in M with y != s and the least (key(r,y)-key(r,s)+17) % 17." */
    private static void everyNumberOfMembers() {
        for (int n = 3; n <= 16; n++) {
            CutDetectMember c = new CutDetectMember(n, 6, 6, 1);
            everySubject("n = " + n, c, 0);
            everySubject("n = " + n, c, 15);
        }
    }

    private static void everySubject(String what, CutDetectMember c, int p) {
        for (int s = 0; s < 16; s++) {
            for (int r = 0; r < 6; r++) {
                int due = next(c.membersOf(p), s, r);
                CHECKS.due(what + ", observer(" + p + ", " + s + ", " + r + ")", c.observer(p, s, r), due);
            }
        }
    }

    /** The next member after s, going round the ring in the order of the keys. */
    private static int next(int members, int s, int r) {
        int at = 0;
        while (ORDER[r][at] != s) {
            at++;
        }
        for (int i = 1; i < 16; i++) {
            int y = ORDER[r][(at + i) % 16];
            if ((members >> y & 1) != 0) {
                return y;
            }
        }
        return -1;
    }

    /** "r is not in 0..K-1" */
    private static void ringsBeyondK() {
        for (int k = 2; k <= 6; k++) {
            CutDetectMember c = new CutDetectMember(16, k, 1, 1);
            for (int s = 0; s < 16; s++) {
                for (int r = 0; r < k; r++) {
                    int due = next(0xFFFF, s, r);
                    CHECKS.due("k = " + k + ", observer(0, " + s + ", " + r + ")", c.observer(0, s, r), due);
                }
                for (int r : new int[] {-1, -2, k, k + 1, 6, 17, Integer.MIN_VALUE, Integer.MAX_VALUE}) {
                    CHECKS.due("k = " + k + ", observer(0, " + s + ", " + r + ")", c.observer(0, s, r), -1);
                }
            }
        }
    }

    /** "p or s is not in 0..15" */
    private static void wrongProcess() {
        CutDetectMember c = new CutDetectMember(16, 6, 6, 1);
        int[] before = Checks.snapshot(c);
        for (int wrong : Checks.WRONG_IDS) {
            for (int s = -1; s <= 16; s++) {
                CHECKS.due("observer(" + wrong + ", " + s + ", 0)", c.observer(wrong, s, 0), -1);
                CHECKS.due("observer(" + wrong + ", " + s + ", 5)", c.observer(wrong, s, 5), -1);
            }
        }
        CHECKS.same("observer changes nothing", Checks.snapshot(c), before);
    }

    /** "p or s is not in 0..15" */
    private static void wrongSubject() {
        CutDetectMember c = new CutDetectMember(16, 6, 6, 1);
        int[] before = Checks.snapshot(c);
        for (int wrong : Checks.WRONG_IDS) {
            for (int p = -1; p <= 16; p++) {
                CHECKS.due("observer(" + p + ", " + wrong + ", 0)", c.observer(p, wrong, 0), -1);
                CHECKS.due("observer(" + p + ", " + wrong + ", 5)", c.observer(p, wrong, 5), -1);
            }
        }
        CHECKS.same("observer changes nothing", Checks.snapshot(c), before);
    }

    /** "whatever the status of p." */
    private static void everyStatus() {
        CutDetectMember c = new CutDetectMember(5, 6, 1, 1);
        Drive.decideFast(c, 0, 2);
        Drive.give(c, CutDetectMember.WELCOME, 0, 2);
        Drive.must(c.crash(0) && c.crash(3) && c.crash(12), "crash");
        int[] before = Checks.snapshot(c);
        everySubject("crashed and ahead", c, 0);
        everySubject("member", c, 1);
        everySubject("removed", c, 2);
        everySubject("crashed", c, 3);
        everySubject("never in", c, 9);
        everySubject("crashed and never in", c, 12);
        CHECKS.due("a crashed one is still an observer", c.observer(0, 1, 0), 3);
        CHECKS.same("observer changes nothing", Checks.snapshot(c), before);
    }

    /** "in mem(p)": not in that of the subject or of the newest configuration. */
    private static void ownMembers() {
        CutDetectMember c = new CutDetectMember(5, 6, 1, 1);
        Drive.decideFast(c, 0, 2);
        CHECKS.due("observer(0, 1, 0)", c.observer(0, 1, 0), 3);
        CHECKS.due("observer(1, 1, 0)", c.observer(1, 1, 0), 2);
        CHECKS.due("observer(2, 1, 0)", c.observer(2, 1, 0), 2);
        CHECKS.due("observer(15, 1, 0)", c.observer(15, 1, 0), 2);
    }

    /** "there is no observer": M holds the subject alone. */
    private static void oneMember() {
        CutDetectMember c = Drive.members(1);
        for (int r = 0; r < 2; r++) {
            CHECKS.due("observer(0, 0, " + r + ")", c.observer(0, 0, r), -1);
            for (int s = 1; s < 16; s++) {
                CHECKS.due("observer(0, " + s + ", " + r + ")", c.observer(0, s, r), 0);
            }
        }
    }

    private static void twoMembers() {
        CutDetectMember c = Drive.members(2);
        for (int r = 0; r < 2; r++) {
            CHECKS.due("observer(0, 0, " + r + ")", c.observer(0, 0, r), 1);
            CHECKS.due("observer(0, 1, " + r + ")", c.observer(0, 1, r), 0);
        }
    }

    /** "there is no observer": M is empty. */
    private static void noMember() {
        CutDetectMember c = Drive.allToLeave();
        for (int q = 0; q < 3; q++) {
            Drive.give(c, CutDetectMember.VOTE, q, 1);
        }
        CHECKS.due("membersOf(1)", c.membersOf(1), 0);
        for (int s = 0; s < 16; s++) {
            for (int r = 0; r < 6; r++) {
                CHECKS.due("observer(1, " + s + ", " + r + ")", c.observer(1, s, r), -1);
            }
        }
    }
}
