/** Promise 1: construction and start. */
public final class ConstructionTest {
    private static final Checks CHECKS = new Checks();

    public static void main(String[] args) {
        for (int n = 3; n <= 16; n++) {
            start(n, n);
        }
        start(2, 3);
        start(0, 3);
        start(-5, 3);
        start(Integer.MIN_VALUE, 3);
        start(17, 16);
        start(100, 16);
        start(Integer.MAX_VALUE, 16);
        ringsAreClamped();
        watermarksAreClamped();
        CHECKS.end();
    }

    private static void start(int n, int size) {
        CutDetectMember c = new CutDetectMember(n, 3, 2, 1);
        for (int p = 0; p < 16; p++) {
            CHECKS.installed("n = " + n, c, p, 0, Drive.all(size), 0);
            int status = p < size ? CutDetectMember.ST_MEMBER : CutDetectMember.ST_OUT;
            CHECKS.due("n = " + n + ", status(" + p + ")", c.status(p), status);
        }
        for (int slot = 0; slot < CutDetectMember.SLOTS; slot++) {
            CHECKS.freeSlot("n = " + n, c, slot);
        }
    }

    private static void ringsAreClamped() {
        int[] given = {Integer.MIN_VALUE, -1, 0, 1, 2, 3, 4, 5, 6, 7, 100, Integer.MAX_VALUE};
        int[] due = {2, 2, 2, 2, 2, 3, 4, 5, 6, 6, 6, 6};
        for (int i = 0; i < given.length; i++) {
            CutDetectMember c = new CutDetectMember(5, given[i], 1, 1);
            CHECKS.due("rings of k = " + given[i], rings(c), due[i]);
        }
    }

    private static int rings(CutDetectMember c) {
        int rings = 0;
        while (rings < 100 && c.observer(0, 1, rings) != -1) {
            rings++;
        }
        return rings;
    }

    private static void watermarksAreClamped() {
        // k, h, l as given, then H and L as they are due.
        int[][] rows = {
            {6, 4, 2, 4, 2}, {6, 6, 1, 6, 1}, {6, 7, 1, 6, 1}, {6, Integer.MAX_VALUE, Integer.MAX_VALUE, 6, 6},
            {6, 0, 0, 1, 1}, {6, -3, 5, 1, 1}, {6, Integer.MIN_VALUE, Integer.MIN_VALUE, 1, 1},
            {6, 3, 4, 3, 3}, {6, 3, 3, 3, 3}, {6, 3, 0, 3, 1}, {6, 3, -1, 3, 1}, {4, 5, 5, 4, 4},
            {4, 5, 3, 4, 3}, {1, 6, 6, 2, 2}, {1, 6, 1, 2, 1}, {9, 9, 5, 6, 5},
        };
        for (int[] row : rows) {
            String what = "k = " + row[0] + ", h = " + row[1] + ", l = " + row[2];
            CHECKS.due("H of " + what, highOf(row), row[3]);
            CHECKS.due("L of " + what, lowOf(row), row[4]);
        }
    }

    /** A cluster of 16 in which process 0 has not heard anything. */
    private static CutDetectMember cluster(int[] row) {
        return new CutDetectMember(16, row[0], row[1], row[2]);
    }

    /** Delivers to process 0 ring after ring of reports about s while `going` rings are not reached. */
    private static void report(CutDetectMember c, int s, int going) {
        for (int r = 0; r < 6 && c.reportCount(0, s) < going; r++) {
            int o = c.observer(0, s, r);
            if (o != -1) {
                Drive.must(c.observe(o, s), "observe");
                Drive.give(c, CutDetectMember.ALERT, o, 0);
                Drive.dropKind(c, CutDetectMember.ALERT);
            }
        }
    }

    /** The number of reports about one subject that first makes process 0 propose. */
    private static int highOf(int[] row) {
        for (int reports = 1; reports <= 6; reports++) {
            CutDetectMember c = cluster(row);
            int s = subjectOfManyObservers(c);
            report(c, s, reports);
            if (c.proposalOf(0) != -1) {
                CHECKS.due("the cut holds the reported alone", c.proposalOf(0), 1 << s);
                return reports;
            }
        }
        return -1;
    }

    /** The number of reports about one subject that first keeps process 0 from proposing another. */
    private static int lowOf(int[] row) {
        for (int reports = 1; reports < row[3]; reports++) {
            CutDetectMember c = cluster(row);
            int s = subjectOfManyObservers(c);
            report(c, s, reports);
            report(c, anotherSubject(c, s), 6);
            if (c.proposalOf(0) == -1) {
                return reports;
            }
        }
        return row[3];
    }

    /** One that a different process watches on each ring, so that reports come one by one. */
    private static int subjectOfManyObservers(CutDetectMember c) {
        return anotherSubject(c, -1);
    }

    private static int anotherSubject(CutDetectMember c, int not) {
        for (int s = 0; s < 16; s++) {
            int observers = 0;
            for (int r = 0; r < 6; r++) {
                int o = c.observer(0, s, r);
                observers |= o == -1 ? 0 : 1 << o;
            }
            if (s != not && Integer.bitCount(observers) == rings(c)) {
                return s;
            }
        }
        throw new IllegalStateException("no subject has its own observer on every ring");
    }
}
