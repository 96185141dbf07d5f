/** Brings a cluster to the state a test is about. What it needs must work, or the test ends loudly. */
final class Drive {
    private Drive() {
    }

    static int mask(int... ids) {
        int set = 0;
        for (int id : ids) {
            set |= 1 << id;
        }
        return set;
    }

    static int all(int n) {
        return (1 << n) - 1;
    }

    /** The ids from first to end - 1. */
    static int[] range(int first, int end) {
        int[] ids = new int[end - first];
        for (int i = first; i < end; i++) {
            ids[i - first] = i;
        }
        return ids;
    }

    static int usedSlots(CutDetectMember c) {
        int used = 0;
        for (int slot = 0; slot < CutDetectMember.SLOTS; slot++) {
            used += c.msg(slot, CutDetectMember.F_DEST) != 0 ? 1 : 0;
        }
        return used;
    }

    /** The lowest slot with a message of this kind from src, or -1. */
    static int find(CutDetectMember c, int kind, int src) {
        return find(c, kind, src, 0xFFFF);
    }

    /** The lowest slot with a message of this kind from src that one of these has yet to receive, or -1. */
    static int find(CutDetectMember c, int kind, int src, int receivers) {
        for (int slot = 0; slot < CutDetectMember.SLOTS; slot++) {
            boolean due = (c.msg(slot, CutDetectMember.F_DEST) & receivers) != 0;
            boolean from = c.msg(slot, CutDetectMember.F_SRC) == src;
            if (due && from && c.msg(slot, CutDetectMember.F_KIND) == kind) {
                return slot;
            }
        }
        return -1;
    }

    static void must(boolean done, String what) {
        if (!done) {
            throw new IllegalStateException(what + " was refused");
        }
    }

    /** Delivers the first message of this kind from src to each of the processes, in their order. */
    static void give(CutDetectMember c, int kind, int src, int... to) {
        int slot = find(c, kind, src);
        for (int p : to) {
            must(c.deliver(slot, p), "deliver(" + slot + ", " + p + ") of kind " + kind + " from " + src);
        }
    }

    static void dropSlot(CutDetectMember c, int slot) {
        for (int p = 0; p < 16; p++) {
            c.drop(slot, p);
        }
    }

    static void dropAll(CutDetectMember c) {
        for (int slot = 0; slot < CutDetectMember.SLOTS; slot++) {
            dropSlot(c, slot);
        }
    }

    static void dropKind(CutDetectMember c, int kind) {
        for (int slot = 0; slot < CutDetectMember.SLOTS; slot++) {
            if (c.msg(slot, CutDetectMember.F_KIND) == kind) {
                dropSlot(c, slot);
            }
        }
    }

    /** Leaves p as the one process that has yet to receive the message. */
    static void dropForOthers(CutDetectMember c, int slot, int p) {
        for (int q = 0; q < 16; q++) {
            if (q != p) {
                c.drop(slot, q);
            }
        }
    }

    /** Sends an alert about s by its observer on ring 0, as process `by` sees the members. */
    static int alert(CutDetectMember c, int by, int s) {
        int o = c.observer(by, s, 0);
        must(c.observe(o, s), "observe(" + o + ", " + s + ")");
        return o;
    }

    /** Sends an alert by o about the least subject that it observes. */
    static void alertBy(CutDetectMember c, int o) {
        int s = 0;
        while (s < 16 && !c.observe(o, s)) {
            s++;
        }
        must(s < 16, "an alert by " + o);
    }

    /** With H = L = 1: these processes cast the fast vote {s}; the alert is then dropped. */
    static void castVotes(CutDetectMember c, int s, int... voters) {
        int o = alert(c, voters[0], s);
        give(c, CutDetectMember.ALERT, o, voters);
        dropKind(c, CutDetectMember.ALERT);
    }

    /** With H = L = 1 and p up to date: p and enough others vote on {s}, and p alone decides it. */
    static void decideFast(CutDetectMember c, int p, int s) {
        int members = c.membersOf(p);
        int o = alert(c, p, s);
        int alertSlot = find(c, CutDetectMember.ALERT, o);
        for (int q = 0; q < 16; q++) {
            if ((members >> q & 1) != 0) {
                must(c.deliver(alertSlot, q), "alert to " + q);
            }
        }
        int before = c.configOf(p);
        for (int q = 0; q < 16 && c.configOf(p) == before; q++) {
            if ((members >> q & 1) != 0) {
                give(c, CutDetectMember.VOTE, q, p);
            }
        }
        must(c.configOf(p) == before + 1, "deciding");
    }

    /** p starts a round and these processes promise; the promises stay in their slots. */
    static void prepared(CutDetectMember c, int p, int... promisers) {
        must(c.fallback(p), "fallback(" + p + ")");
        give(c, CutDetectMember.PREPARE, p, promisers);
        dropKind(c, CutDetectMember.PREPARE);
    }

    static void promisesTo(CutDetectMember c, int p, int... promisers) {
        for (int q : promisers) {
            int slot = find(c, CutDetectMember.PROMISE, q, 1 << p);
            must(c.deliver(slot, p), "the promise of " + q + " to " + p);
        }
    }

    /** p starts a round, these CQ processes promise, and p sends its accept. */
    static void acceptSent(CutDetectMember c, int p, int... promisers) {
        prepared(c, p, promisers);
        promisesTo(c, p, promisers);
        must(c.paxos(p, CutDetectMember.P_PHASE) == 2, "the accept of " + p);
    }

    /**
     * A slot with a message of this kind from q that p has yet to receive. All who are up have voted,
     * their votes are undelivered, and the first three of them are CQ of their members.
     */
    static int pending(CutDetectMember c, int kind, int q, int p, int... up) {
        switch (kind) {
            case CutDetectMember.ALERT -> alertBy(c, q);
            case CutDetectMember.VOTE -> must(c.proposalOf(q) != -1, "a vote of " + q);
            case CutDetectMember.PREPARE -> must(c.fallback(q), "fallback(" + q + ")");
            case CutDetectMember.PROMISE -> prepared(c, p, q);
            case CutDetectMember.ACCEPT -> acceptSent(c, q, up[0], up[1], up[2]);
            default -> {
                acceptSent(c, up[0], up[0], up[1], up[2]);
                give(c, CutDetectMember.ACCEPT, up[0], q);
            }
        }
        int slot = find(c, kind, q, 1 << p);
        must(slot != -1, "a message of kind " + kind + " from " + q + " to " + p);
        return slot;
    }

    /** The members are 0..m-1, all of them in the same configuration with an empty pool; H = L = 1. */
    static CutDetectMember members(int m) {
        CutDetectMember c = new CutDetectMember(m, 2, 1, 1);
        for (int last = 2; last >= m; last--) {
            castVotes(c, last, range(0, last + 1));
            for (int q = 0; q <= last; q++) {
                give(c, CutDetectMember.VOTE, q, range(0, last));
            }
            dropAll(c);
        }
        must(c.membersOf(0) == all(m) && c.configOf(0) == Math.max(0, 3 - m), "having " + m + " members");
        return c;
    }

    /** Of n members, with H = L = 1, these have decided the cut {s}; the others are behind, the pool is empty. */
    static CutDetectMember ahead(int n, int s, int... deciders) {
        CutDetectMember c = new CutDetectMember(n, 2, 1, 1);
        castVotes(c, s, range(0, n));
        for (int p : deciders) {
            for (int q = 0; q < n && c.configOf(p) == 0; q++) {
                give(c, CutDetectMember.VOTE, q, p);
            }
            must(c.configOf(p) == 1, "deciding");
        }
        dropAll(c);
        return c;
    }

    /** All three members have voted that all of them leave, and their votes are undelivered. */
    static CutDetectMember allToLeave() {
        CutDetectMember c = new CutDetectMember(3, 6, 6, 1);
        int[][] alerts = {{1, 0}, {2, 1}, {0, 2}, {2, 0}, {0, 1}, {1, 2}};
        for (int[] alert : alerts) {
            must(c.observe(alert[0], alert[1]), "observe(" + alert[0] + ", " + alert[1] + ")");
            give(c, CutDetectMember.ALERT, alert[0], 0, 1, 2);
        }
        return c;
    }

    /** Takes all slots with alerts of o that nobody has received, so that no process changes. */
    static void fillPool(CutDetectMember c, int o) {
        while (usedSlots(c) < CutDetectMember.SLOTS) {
            alertBy(c, o);
        }
    }
}
