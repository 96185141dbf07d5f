import java.util.Arrays;

/** Promise 15: observer. */
public final class ObserverTest {
    private static final Checks CHECKS = new Checks();

    /** The ids 0..15 in the order of their keys on each ring, worked out by hand. */
    private static final int[][] ORDER = {
        {5, 11, 0, 6, 12, 1, 7, 13, 2, 8, 14, 3, 9, 15, 4, 10},
        {6, 13, 3, 10, 0, 7, 14, 4, 11, 1, 8, 15, 5, 12, 2, 9},
        {4, 9, 14, 2, 7, 12, 0, 5, 10, 15, 3, 8, 13, 1, 6, 11},
        {1, 3, 5, 7, 9, 11, 13, 15, 0, 2, 4, 6, 8, 10, 12, 14},
        {13, 10, 7, 4, 1, 15, 12, 9, 6, 3, 0, 14, 11, 8, 5, 2},
        {3, 7, 11, 15, 2, 6, 10, 14, 1, 5, 9, 13, 0, 4, 8, 12},
    };

    public static void main(String[] args) {
        for (int n = 3; n <= 16; n++) {
            CutDetectMember c = new CutDetectMember(n, 6, 6, 1);
            everySubject("n = " + n, c, 0);
            everySubject("n = " + n, c, 15);
        }
        ringsBeyondK();
        wrongIds();
        ownMembersWhateverTheStatus();
        oneMember();
        CHECKS.end();
    }

    private static void everySubject(String what, CutDetectMember c, int p) {
        for (int s = 0; s < 16; s++) {
            for (int r = 0; r < 6; r++) {
                int due = next(c.membersOf(p), s, r);
                CHECKS.due(what + ", observer(" + p + ", " + s + ", " + r + ")", c.observer(p, s, r), due);
            }
        }
    }

    /** The next member after s, going round the ring in the order of the keys. */
    private static int next(int members, int s, int r) {
        int at = 0;
        while (ORDER[r][at] != s) {
            at++;
        }
        for (int i = 1; i < 16; i++) {
            int y = ORDER[r][(at + i) % 16];
            if ((members >> y & 1) != 0) {
                return y;
            }
        }
        return -1;
    }

    private static void ringsBeyondK() {
        for (int k = 2; k <= 6; k++) {
            CutDetectMember c = new CutDetectMember(5, k, 1, 1);
            for (int r = -3; r <= 9; r++) {
                boolean ring = c.observer(0, 1, r) != -1;
                CHECKS.due("k = " + k + ", observer(0, 1, " + r + ")", ring, r >= 0 && r < k);
            }
            CHECKS.due("ring Integer.MIN_VALUE", c.observer(0, 1, Integer.MIN_VALUE), -1);
            CHECKS.due("ring Integer.MAX_VALUE", c.observer(0, 1, Integer.MAX_VALUE), -1);
        }
    }

    private static void wrongIds() {
        CutDetectMember c = new CutDetectMember(16, 6, 6, 1);
        int[] before = Checks.snapshot(c);
        for (int wrong : Checks.WRONG_IDS) {
            for (int p = -1; p <= 16; p++) {
                CHECKS.due("observer(" + wrong + ", " + p + ", 0)", c.observer(wrong, p, 0), -1);
                CHECKS.due("observer(" + p + ", " + wrong + ", 0)", c.observer(p, wrong, 0), -1);
            }
        }
        CHECKS.due("observer changes nothing", Arrays.equals(before, Checks.snapshot(c)), true);
    }

    private static void ownMembersWhateverTheStatus() {
        CutDetectMember c = new CutDetectMember(5, 6, 1, 1);
        Drive.decideFast(c, 0, 2);
        Drive.give(c, CutDetectMember.WELCOME, 0, 2);
        everySubject("ahead", c, 0);
        everySubject("behind", c, 1);
        everySubject("out", c, 2);
        everySubject("never in", c, 9);
        CHECKS.due("observer(0, 1, 0)", c.observer(0, 1, 0), 3);
        CHECKS.due("observer(1, 1, 0)", c.observer(1, 1, 0), 2);
        CHECKS.due("observer(2, 1, 0)", c.observer(2, 1, 0), 3);
        Drive.must(c.crash(0), "crash(0)");
        Drive.must(c.crash(3), "crash(3)");
        everySubject("crashed", c, 0);
        CHECKS.due("a crashed one is still an observer", c.observer(0, 1, 0), 3);
    }

    private static void oneMember() {
        CutDetectMember c = new CutDetectMember(3, 6, 1, 1);
        Drive.shrinkToTwo(c);
        Drive.castVotes(c, 1, 0, 1);
        Drive.give(c, CutDetectMember.VOTE, 0, 0);
        Drive.give(c, CutDetectMember.VOTE, 1, 0);
        CHECKS.due("membersOf(0)", c.membersOf(0), 1);
        for (int r = 0; r < 6; r++) {
            CHECKS.due("observer(0, 0, " + r + ")", c.observer(0, 0, r), -1);
            for (int s = 1; s < 16; s++) {
                CHECKS.due("observer(0, " + s + ", " + r + ")", c.observer(0, s, r), 0);
            }
        }
    }
}
