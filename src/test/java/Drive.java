/** Brings a cluster to the state a test is about. What it needs must work, or the test ends loudly. */
final class Drive {
    private Drive() {
    }

    static int mask(int... ids) {
        int set = 0;
        for (int id : ids) {
            set |= 1 << id;
        }
        return set;
    }

    static int all(int n) {
        return (1 << n) - 1;
    }

    static int usedSlots(CutDetectMember c) {
        int used = 0;
        for (int slot = 0; slot < CutDetectMember.SLOTS; slot++) {
            used += c.msg(slot, CutDetectMember.F_DEST) != 0 ? 1 : 0;
        }
        return used;
    }

    /** The lowest slot with a message of this kind from src, or -1. */
    static int find(CutDetectMember c, int kind, int src) {
        for (int slot = 0; slot < CutDetectMember.SLOTS; slot++) {
            if (c.msg(slot, CutDetectMember.F_KIND) == kind && c.msg(slot, CutDetectMember.F_SRC) == src) {
                return slot;
            }
        }
        return -1;
    }

    static void must(boolean done, String what) {
        if (!done) {
            throw new IllegalStateException(what + " was refused");
        }
    }

    /** Delivers the first message of this kind from src to each of the processes, in their order. */
    static void give(CutDetectMember c, int kind, int src, int... to) {
        int slot = find(c, kind, src);
        for (int p : to) {
            must(c.deliver(slot, p), "deliver(" + slot + ", " + p + ") of kind " + kind + " from " + src);
        }
    }

    static void dropAll(CutDetectMember c) {
        for (int slot = 0; slot < CutDetectMember.SLOTS; slot++) {
            for (int p = 0; p < 16; p++) {
                c.drop(slot, p);
            }
        }
    }

    static void dropKind(CutDetectMember c, int kind) {
        for (int slot = 0; slot < CutDetectMember.SLOTS; slot++) {
            for (int p = 0; p < 16 && c.msg(slot, CutDetectMember.F_KIND) == kind; p++) {
                c.drop(slot, p);
            }
        }
    }

    /** Sends an alert about s by its observer on ring 0, as process `by` sees the members. */
    static int alert(CutDetectMember c, int by, int s) {
        int o = c.observer(by, s, 0);
        must(c.observe(o, s), "observe(" + o + ", " + s + ")");
        return o;
    }

    /** With H = L = 1: these processes cast the fast vote {s}; the alert is then dropped. */
    static void castVotes(CutDetectMember c, int s, int... voters) {
        int o = alert(c, voters[0], s);
        give(c, CutDetectMember.ALERT, o, voters);
        dropKind(c, CutDetectMember.ALERT);
    }

    /** With H = L = 1 and p up to date: p and enough others vote on {s}, and p alone decides it. */
    static void decideFast(CutDetectMember c, int p, int s) {
        int members = c.membersOf(p);
        int o = alert(c, p, s);
        int alertSlot = find(c, CutDetectMember.ALERT, o);
        for (int q = 0; q < 16; q++) {
            if ((members >> q & 1) != 0) {
                must(c.deliver(alertSlot, q), "alert to " + q);
            }
        }
        int before = c.configOf(p);
        for (int q = 0; q < 16 && c.configOf(p) == before; q++) {
            if ((members >> q & 1) != 0) {
                give(c, CutDetectMember.VOTE, q, p);
            }
        }
        must(c.configOf(p) == before + 1, "deciding");
    }

    /** With n = 3 and H = L = 1: 2 is removed, and 0 and 1 know it; the pool is empty. */
    static void shrinkToTwo(CutDetectMember c) {
        castVotes(c, 2, 0, 1, 2);
        for (int q = 0; q < 3; q++) {
            give(c, CutDetectMember.VOTE, q, 0, 1);
        }
        must(c.configOf(0) == 1 && c.configOf(1) == 1, "removing 2");
        dropAll(c);
    }

    /** All 32 slots taken by messages of p that nobody has received. */
    static void fillPool(CutDetectMember c, int p) {
        while (usedSlots(c) < CutDetectMember.SLOTS) {
            must(c.fallback(p), "fallback(" + p + ")");
        }
    }
}
