import java.util.Arrays;
import java.util.function.BooleanSupplier;

/** Counts the answers that are not the ones that are due, and ends the test accordingly. */
final class Checks {
    /** Process ids that are wrong, with the edges of int among them. */
    static final int[] WRONG_IDS = {-1, 16, 17, -16, 32, Integer.MIN_VALUE, Integer.MAX_VALUE};
    /** Numbers of slots that are wrong. */
    static final int[] WRONG_SLOTS = {-1, 32, 33, -32, 64, Integer.MIN_VALUE, Integer.MAX_VALUE};
    /** Answers of one process in a snapshot, the first being its status. */
    static final int CELLS = 45;
    /** Where the answers of paxos begin among them. */
    static final int ROUND_CELLS = 37;

    private int made = 0;
    private int wrong = 0;

    void due(String what, long got, long want) {
        made++;
        if (got != want) {
            wrong++;
            System.out.println(what + " answered " + got + ", due is " + want);
        }
    }

    void due(String what, boolean got, boolean want) {
        due(what, got ? 1 : 0, want ? 1 : 0);
    }

    void same(String what, int[] got, int[] want) {
        int at = Arrays.mismatch(got, want);
        due(at == -1 ? what : what + ", cell " + at, at == -1, true);
    }

    /** The call must answer false and leave everything that can be read as it was. */
    void refused(String what, CutDetectMember c, BooleanSupplier call) {
        int[] before = snapshot(c);
        due(what, call.getAsBoolean(), false);
        same(what + " changes nothing", snapshot(c), before);
    }

    /** The call must answer true and leave all processes as they were. */
    void leavesProcesses(String what, CutDetectMember c, BooleanSupplier call) {
        int[] before = processSnapshot(c);
        due(what, call.getAsBoolean(), true);
        same(what + " changes no process", processSnapshot(c), before);
    }

    /** deliver(slot, p) must take p off the slot and change nothing else. */
    void withoutEffect(String what, CutDetectMember c, int slot, int p) {
        int[] processes = processSnapshot(c);
        int[] slots = slotsWithout(c, slot, p);
        due(what + ", deliver(" + slot + ", " + p + ")", c.deliver(slot, p), true);
        same(what + " changes no process", processSnapshot(c), processes);
        same(what + " changes no slot but for the receiver", slotSnapshot(c), slots);
    }

    /** deliver(slot, p) must take p off the slot and change p, but no other process and no other slot. */
    void unanswered(String what, CutDetectMember c, int slot, int p) {
        int[] slots = slotsWithout(c, slot, p);
        changesOnly(what, c, slot, p);
        same(what + " changes no slot but for the receiver", slotSnapshot(c), slots);
    }

    /** deliver(slot, p) must take p off the slot and bring just this message, in the lowest slot then free. */
    void answered(String what, CutDetectMember c, int slot, int p, int... fields) {
        int[] slots = slotsWithout(c, slot, p);
        int free = 0;
        while (slots[free * 7 + CutDetectMember.F_DEST] != 0) {
            free++;
        }
        System.arraycopy(fields, 0, slots, free * 7, 7);
        changesOnly(what, c, slot, p);
        message(what, c, free, fields);
        same(what + " changes no slot but two", slotSnapshot(c), slots);
    }

    private void changesOnly(String what, CutDetectMember c, int slot, int p) {
        int[] processes = processSnapshot(c);
        due(what + ", deliver(" + slot + ", " + p + ")", c.deliver(slot, p), true);
        System.arraycopy(snapshotOf(c, p), 0, processes, p * CELLS, CELLS);
        same(what + " changes no process but " + p, processSnapshot(c), processes);
    }

    /** The slots as they are to be when p alone has been taken off one of them. */
    static int[] slotsWithout(CutDetectMember c, int slot, int p) {
        int[] slots = slotSnapshot(c);
        int dest = slots[slot * 7 + CutDetectMember.F_DEST] & ~(1 << p);
        slots[slot * 7 + CutDetectMember.F_DEST] = dest;
        if (dest == 0) {
            Arrays.fill(slots, slot * 7, slot * 7 + 7, 0);
        }
        return slots;
    }

    /** The slot holds just this message. */
    void message(String what, CutDetectMember c, int slot, int... fields) {
        for (int f = 0; f < 7; f++) {
            due(what + ", field " + f + " of slot " + slot, c.msg(slot, f), fields[f]);
        }
    }

    void freeSlot(String what, CutDetectMember c, int slot) {
        message(what, c, slot, 0, 0, 0, 0, 0, 0, 0);
    }

    /** The answers of paxos(p, 0) to paxos(p, 7). */
    void rounds(String what, CutDetectMember c, int p, int... due) {
        for (int f = 0; f < 8; f++) {
            due(what + ", paxos(" + p + ", " + f + ")", c.paxos(p, f), due[f]);
        }
    }

    /** The per-configuration state of p is as after INSTALL. */
    void fresh(String what, CutDetectMember c, int p) {
        for (int q = 0; q < 16; q++) {
            due(what + ", reportCount(" + p + ", " + q + ")", c.reportCount(p, q), 0);
            due(what + ", voteOf(" + p + ", " + q + ")", c.voteOf(p, q), -1);
        }
        due(what + ", proposalOf(" + p + ")", c.proposalOf(p), -1);
        rounds(what, c, p, 0, -1, 0, 0, 0, 0, 0, 0);
    }

    void installed(String what, CutDetectMember c, int p, int config, int members, int cut) {
        due(what + ", configOf(" + p + ")", c.configOf(p), config);
        due(what + ", membersOf(" + p + ")", c.membersOf(p), members);
        due(what + ", lastCut(" + p + ")", c.lastCut(p), cut);
        fresh(what, c, p);
    }

    void end() {
        System.out.println(made + " answers, " + wrong + " not as due");
        if (wrong != 0 || made == 0) {
            System.exit(1);
        }
    }

    /** What p alone can be asked for. */
    static int[] snapshotOf(CutDetectMember c, int p) {
        int[] cells = new int[CELLS];
        int at = 0;
        cells[at++] = c.status(p);
        cells[at++] = c.configOf(p);
        cells[at++] = c.membersOf(p);
        cells[at++] = c.lastCut(p);
        cells[at++] = c.proposalOf(p);
        for (int q = 0; q < 16; q++) {
            cells[at++] = c.reportCount(p, q);
            cells[at++] = c.voteOf(p, q);
        }
        for (int f = 0; f < 8; f++) {
            cells[at++] = c.paxos(p, f);
        }
        return cells;
    }

    static int[] slotSnapshot(CutDetectMember c) {
        int[] cells = new int[CutDetectMember.SLOTS * 7];
        for (int i = 0; i < cells.length; i++) {
            cells[i] = c.msg(i / 7, i % 7);
        }
        return cells;
    }

    static int[] processSnapshot(CutDetectMember c) {
        int[] cells = new int[16 * CELLS];
        for (int p = 0; p < 16; p++) {
            System.arraycopy(snapshotOf(c, p), 0, cells, p * CELLS, CELLS);
        }
        return cells;
    }

    static int[] snapshot(CutDetectMember c) {
        int[] processes = processSnapshot(c);
        int[] slots = slotSnapshot(c);
        int[] all = Arrays.copyOf(processes, processes.length + slots.length);
        System.arraycopy(slots, 0, all, processes.length, slots.length);
        return all;
    }
}
