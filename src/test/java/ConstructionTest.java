/** Promise 1: construction and start. */
public final class ConstructionTest {
    private static final Checks CHECKS = new Checks();

    public static void main(String[] args) {
        membersWithinTheirBounds();
        tooFewMembers();
        tooManyMembers();
        ringsWithinTheirBounds();
        tooFewRings();
        tooManyRings();
        everyHighWatermark();
        everyLowWatermark();
        clampedInOrder();
        CHECKS.end();
    }

    /** "n is clamped to 3..16. Processes 0..n-1 are the first members." */
    private static void membersWithinTheirBounds() {
        for (int n = 3; n <= 16; n++) {
            start(n, n);
        }
    }

    /** "A value below the least allowed value becomes the least" */
    private static void tooFewMembers() {
        for (int n : new int[] {2, 1, 0, -1, -5, Integer.MIN_VALUE}) {
            start(n, 3);
        }
    }

    /** "a value above the greatest becomes the greatest." */
    private static void tooManyMembers() {
        for (int n : new int[] {17, 18, 32, 100, Integer.MAX_VALUE}) {
            start(n, 16);
        }
    }

    /** "At the start, for every p in 0..15", "Processes n..15 start OUT", "All slots are free." */
    private static void start(int n, int size) {
        CutDetectMember c = new CutDetectMember(n, 3, 2, 1);
        for (int p = 0; p < 16; p++) {
            CHECKS.installed("n = " + n, c, p, 0, Drive.all(size), 0);
            int status = p < size ? CutDetectMember.ST_MEMBER : CutDetectMember.ST_OUT;
            CHECKS.due("n = " + n + ", status(" + p + ")", c.status(p), status);
        }
        for (int slot = 0; slot < CutDetectMember.SLOTS; slot++) {
            CHECKS.freeSlot("n = " + n, c, slot);
        }
    }

    /** "k is clamped to 2..6 and becomes K." */
    private static void ringsWithinTheirBounds() {
        for (int k = 2; k <= 6; k++) {
            CHECKS.due("rings of k = " + k, rings(new CutDetectMember(5, k, 1, 1)), k);
        }
    }

    private static void tooFewRings() {
        for (int k : new int[] {1, 0, -1, -6, Integer.MIN_VALUE}) {
            CHECKS.due("rings of k = " + k, rings(new CutDetectMember(5, k, 1, 1)), 2);
        }
    }

    private static void tooManyRings() {
        for (int k : new int[] {7, 8, 12, 100, Integer.MAX_VALUE}) {
            CHECKS.due("rings of k = " + k, rings(new CutDetectMember(5, k, 1, 1)), 6);
        }
    }

    private static int rings(CutDetectMember c) {
        int rings = 0;
        while (rings < 100 && c.observer(0, 1, rings) != -1) {
            rings++;
        }
        return rings;
    }

    /** "h is clamped to 1..K and becomes the high watermark H." */
    private static void everyHighWatermark() {
        for (int k = 2; k <= 6; k++) {
            for (int h = 1; h <= k; h++) {
                high(k, h, 1, h);
            }
            for (int h : new int[] {0, -1, -6, Integer.MIN_VALUE}) {
                high(k, h, 1, 1);
            }
            for (int h : new int[] {k + 1, k + 2, 100, Integer.MAX_VALUE}) {
                high(k, h, 1, k);
            }
        }
    }

    /** "l is clamped to 1..H and becomes the low watermark L." */
    private static void everyLowWatermark() {
        for (int k = 2; k <= 6; k++) {
            for (int h = 1; h <= k; h++) {
                for (int l = 1; l <= h; l++) {
                    low(k, h, l, h, l);
                }
                for (int l : new int[] {0, -1, -6, Integer.MIN_VALUE}) {
                    low(k, h, l, h, 1);
                }
                for (int l : new int[] {h + 1, h + 2, 100, Integer.MAX_VALUE}) {
                    low(k, h, l, h, h);
                }
            }
        }
    }

    /** "clamps its arguments in the order n, k, h, l": h by K, not by k, and l by H, not by h. */
    private static void clampedInOrder() {
        // k, h, l as given, then H and L as they are due.
        int[][] rows = {
            {9, 8, 7, 6, 6}, {9, 9, 5, 6, 5}, {7, 7, 7, 6, 6}, {1, 2, 2, 2, 2}, {0, 2, 1, 2, 1}, {-4, 6, 6, 2, 2},
            {3, 5, 4, 3, 3}, {4, 0, 3, 1, 1}, {6, -3, 5, 1, 1}, {Integer.MIN_VALUE, 3, 3, 2, 2},
            {Integer.MAX_VALUE, Integer.MAX_VALUE, Integer.MAX_VALUE, 6, 6},
            {Integer.MAX_VALUE, Integer.MIN_VALUE, Integer.MAX_VALUE, 1, 1},
            {Integer.MIN_VALUE, Integer.MIN_VALUE, Integer.MIN_VALUE, 1, 1},
        };
        for (int[] row : rows) {
            high(row[0], row[1], row[2], row[3]);
            low(row[0], row[1], row[2], row[3], row[4]);
        }
        // A size that is clamped leaves the others alone.
        CHECKS.due("rings of n = 99", rings(new CutDetectMember(99, 4, 1, 1)), 4);
        CHECKS.due("rings of n = -99", rings(new CutDetectMember(-99, 5, 1, 1)), 5);
    }

    private static void high(int k, int h, int l, int due) {
        CHECKS.due("H of k = " + k + ", h = " + h + ", l = " + l, highOf(k, h, l), due);
    }

    private static void low(int k, int h, int l, int high, int due) {
        CHECKS.due("L of k = " + k + ", h = " + h + ", l = " + l, lowOf(k, h, l, high), due);
    }

    /** Delivers to process 0 ring after ring of reports about s while `going` rings are not reached. */
    private static void report(CutDetectMember c, int s, int going) {
        for (int r = 0; r < 6 && c.reportCount(0, s) < going; r++) {
            int o = c.observer(0, s, r);
            if (o != -1) {
                Drive.must(c.observe(o, s), "observe");
                Drive.give(c, CutDetectMember.ALERT, o, 0);
                Drive.dropKind(c, CutDetectMember.ALERT);
            }
        }
    }

    /** The number of reports about one subject that first makes process 0 propose. */
    private static int highOf(int k, int h, int l) {
        for (int reports = 1; reports <= 6; reports++) {
            CutDetectMember c = new CutDetectMember(16, k, h, l);
            int s = subjectOfManyObservers(c, -1);
            report(c, s, reports);
            if (c.proposalOf(0) != -1) {
                CHECKS.due("the cut holds the reported alone", c.proposalOf(0), 1 << s);
                return reports;
            }
        }
        return -1;
    }

    /** The number of reports about one subject that first keeps process 0 from proposing another. */
    private static int lowOf(int k, int h, int l, int high) {
        for (int reports = 1; reports < high; reports++) {
            CutDetectMember c = new CutDetectMember(16, k, h, l);
            int s = subjectOfManyObservers(c, -1);
            report(c, s, reports);
            report(c, subjectOfManyObservers(c, s), 6);
            if (c.proposalOf(0) == -1) {
                return reports;
            }
        }
        return high;
    }

    /** One that a different process watches on each ring, so that reports come one by one. */
    private static int subjectOfManyObservers(CutDetectMember c, int not) {
        for (int s = 0; s < 16; s++) {
            int observers = 0;
            for (int r = 0; r < 6; r++) {
                int o = c.observer(0, s, r);
                observers |= o == -1 ? 0 : 1 << o;
            }
            if (s != not && Integer.bitCount(observers) == rings(c)) {
                return s;
            }
        }
        throw new IllegalStateException("no subject has its own observer on every ring");
    }
}
