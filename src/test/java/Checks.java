import java.util.Arrays;
import java.util.function.BooleanSupplier;

/** Counts the answers that are not the ones that are due, and ends the test accordingly. */
final class Checks {
    /** Process ids that are wrong, with the edges of int among them. */
    static final int[] WRONG_IDS = {-1, 16, 17, -16, 32, Integer.MIN_VALUE, Integer.MAX_VALUE};

    private int made = 0;
    private int wrong = 0;

    void due(String what, long got, long want) {
        made++;
        if (got != want) {
            wrong++;
            System.out.println(what + " answered " + got + ", due is " + want);
        }
    }

    void due(String what, boolean got, boolean want) {
        due(what, got ? 1 : 0, want ? 1 : 0);
    }

    /** The call must answer false and leave everything that can be read as it was. */
    void refused(String what, CutDetectMember c, BooleanSupplier call) {
        int[] before = snapshot(c);
        due(what, call.getAsBoolean(), false);
        due(what + " changes nothing", Arrays.equals(before, snapshot(c)), true);
    }

    /** The slot holds just this message. */
    void message(String what, CutDetectMember c, int slot, int... fields) {
        for (int f = 0; f < 7; f++) {
            due(what + ", field " + f + " of slot " + slot, c.msg(slot, f), fields[f]);
        }
    }

    void freeSlot(String what, CutDetectMember c, int slot) {
        message(what, c, slot, 0, 0, 0, 0, 0, 0, 0);
    }

    /** The per-configuration state of p is as after INSTALL. */
    void fresh(String what, CutDetectMember c, int p) {
        for (int q = 0; q < 16; q++) {
            due(what + ", reportCount(" + p + ", " + q + ")", c.reportCount(p, q), 0);
            due(what + ", voteOf(" + p + ", " + q + ")", c.voteOf(p, q), -1);
        }
        due(what + ", proposalOf(" + p + ")", c.proposalOf(p), -1);
        for (int f = 0; f < 8; f++) {
            due(what + ", paxos(" + p + ", " + f + ")", c.paxos(p, f), f == CutDetectMember.P_ACCRND ? -1 : 0);
        }
    }

    void installed(String what, CutDetectMember c, int p, int config, int members, int cut) {
        due(what + ", configOf(" + p + ")", c.configOf(p), config);
        due(what + ", membersOf(" + p + ")", c.membersOf(p), members);
        due(what + ", lastCut(" + p + ")", c.lastCut(p), cut);
        fresh(what, c, p);
    }

    void end() {
        System.out.println(made + " answers, " + wrong + " not as due");
        if (wrong != 0 || made == 0) {
            System.exit(1);
        }
    }

    /** What p alone can be asked for. */
    static int[] snapshotOf(CutDetectMember c, int p) {
        int[] cells = new int[45];
        int at = 0;
        cells[at++] = c.status(p);
        cells[at++] = c.configOf(p);
        cells[at++] = c.membersOf(p);
        cells[at++] = c.lastCut(p);
        cells[at++] = c.proposalOf(p);
        for (int q = 0; q < 16; q++) {
            cells[at++] = c.reportCount(p, q);
            cells[at++] = c.voteOf(p, q);
        }
        for (int f = 0; f < 8; f++) {
            cells[at++] = c.paxos(p, f);
        }
        return cells;
    }

    static int[] slotSnapshot(CutDetectMember c) {
        int[] cells = new int[CutDetectMember.SLOTS * 7];
        for (int i = 0; i < cells.length; i++) {
            cells[i] = c.msg(i / 7, i % 7);
        }
        return cells;
    }

    static int[] processSnapshot(CutDetectMember c) {
        int[] cells = new int[16 * 45];
        for (int p = 0; p < 16; p++) {
            System.arraycopy(snapshotOf(c, p), 0, cells, p * 45, 45);
        }
        return cells;
    }

    static int[] snapshot(CutDetectMember c) {
        int[] processes = processSnapshot(c);
        int[] slots = slotSnapshot(c);
        int[] all = Arrays.copyOf(processes, processes.length + slots.length);
        System.arraycopy(slots, 0, all, processes.length, slots.length);
        return all;
    }
}
