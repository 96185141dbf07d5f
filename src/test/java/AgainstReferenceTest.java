import java.util.ArrayList;
import java.util.List;
import java.util.TreeMap;

/** All promises: long runs of chosen calls, each compared with Reference in all that can be read. */
public final class AgainstReferenceTest {
    private static final int RUNS = 300;
    private static final int CALLS = 600;
    /** Rules that the runs must reach, or they prove too little. */
    private static final String[] RULES = {
        "removal alert", "join alert", "welcome to a member", "welcome to an outsider", "welcome far ahead",
        "welcome ignored", "kind 1 to an outsider", "kind 2 to an outsider", "kind 3 to an outsider",
        "old message", "own old message", "newer message", "alert too late", "something unstable",
        "proposal of several", "fast decision", "prepare refused", "promise refused", "choose a", "choose b",
        "choose b, not the first", "choose c", "choose d", "choose e", "accept refused",
        "accepted of an older round", "accepted of a newer round", "classic decision", "decider in the cut",
        "lost kind 2", "lost kind 4", "lost kind 6", "lost kind 7",
    };

    private static final Checks CHECKS = new Checks();
    private static final TreeMap<String, Integer> REACHED = new TreeMap<>();
    private static long seed = 1;

    /** The same numbers on every machine and in every run. */
    private static int pick(int below) {
        seed = seed * 6364136223846793005L + 1442695040888963407L;
        return (int) ((seed >>> 33) % below);
    }

    public static void main(String[] args) {
        for (int run = 0; run < RUNS; run++) {
            seed = run + 1;
            oneRun(run);
        }
        for (String rule : RULES) {
            CHECKS.due("runs reach '" + rule + "'", REACHED.getOrDefault(rule, 0) > 0, true);
        }
        CHECKS.end();
    }

    private static void oneRun(int run) {
        int n = run % 3 == 0 ? 3 + pick(3) : pick(20);
        int k = pick(8);
        int h = run % 2 == 0 ? 1 + pick(2) : pick(8);
        int l = pick(4);
        CutDetectMember c = new CutDetectMember(n, k, h, l);
        Reference r = new Reference(n, k, h, l);
        String told = "new CutDetectMember(" + n + ", " + k + ", " + h + ", " + l + ")";
        // Some runs lose much, crash much or hardly ever deliver, so that the pool is full.
        int losing = pick(4) == 0 ? 40 : pick(10);
        int delivering = pick(5) == 0 ? 35 : 75;
        List<String> calls = new ArrayList<>(List.of(told));
        for (int i = 0; i < CALLS; i++) {
            boolean alike = oneCall(c, r, calls, losing, delivering) && same(c, r);
            if (!alike) {
                CHECKS.due("run " + run + ": " + calls, alike, true);
                return;
            }
        }
        CHECKS.due("run " + run, true, true);
        r.reached.forEach((rule, times) -> REACHED.merge(rule, times, Integer::sum));
    }

    private static boolean oneCall(
            CutDetectMember c, Reference r, List<String> calls, int losing, int delivering) {
        int chance = pick(100);
        int p = pick(60) == 0 ? pick(40) - 12 : pick(16);
        if (chance < delivering) {
            int slot = slotFor(r);
            int to = pick(30) == 0 ? p : receiver(r, slot, p);
            boolean lose = pick(100) < losing;
            calls.add((lose ? "drop(" : "deliver(") + slot + ", " + to + ")");
            return lose ? c.drop(slot, to) == r.drop(slot, to) : c.deliver(slot, to) == r.deliver(slot, to);
        }
        if (chance < 96) {
            int s = pick(60) == 0 ? pick(40) - 12 : pick(16);
            int o = pick(6) == 0 ? p : r.observer(Math.floorMod(p, 16), s, pick(r.rings));
            calls.add("observe(" + o + ", " + s + ")");
            return c.observe(o, s) == r.observe(o, s);
        }
        if (chance < 99 || pick(4) != 0) {
            calls.add("fallback(" + p + ")");
            return c.fallback(p) == r.fallback(p);
        }
        calls.add("crash(" + p + ")");
        return c.crash(p) == r.crash(p);
    }

    /** Mostly a slot in use. */
    private static int slotFor(Reference r) {
        if (pick(40) == 0) {
            return pick(50) - 9;
        }
        int start = pick(32);
        for (int i = 0; i < 32; i++) {
            if (r.slots[(start + i) % 32] != null) {
                return (start + i) % 32;
            }
        }
        return start;
    }

    /** One of the processes that have yet to receive the message, or p if there is none. */
    private static int receiver(Reference r, int slot, int p) {
        if (slot < 0 || slot >= 32 || r.slots[slot] == null) {
            return p;
        }
        List<Integer> dest = new ArrayList<>(r.slots[slot].dest());
        return dest.get(pick(dest.size()));
    }

    private static boolean same(CutDetectMember c, Reference r) {
        boolean alike = true;
        for (int p = 0; p < 16; p++) {
            Reference.Proc q = r.procs[p];
            alike &= c.status(p) == r.status(p);
            alike &= c.configOf(p) == q.cfg;
            alike &= c.membersOf(p) == Reference.mask(q.mem);
            alike &= c.lastCut(p) == Reference.mask(q.lastCut);
            alike &= c.proposalOf(p) == q.myVote;
            for (int s = 0; s < 16; s++) {
                alike &= c.reportCount(p, s) == q.reports(s);
                alike &= c.voteOf(p, s) == q.vote.getOrDefault(s, -1);
            }
            for (int f = -1; f < 9; f++) {
                alike &= c.paxos(p, f) == r.paxos(p, f);
            }
            int s = pick(16);
            int ring = pick(8) - 1;
            alike &= c.observer(p, s, ring) == r.observer(p, s, ring);
        }
        for (int slot = 0; slot < 32; slot++) {
            for (int f = -1; f < 8; f++) {
                alike &= c.msg(slot, f) == r.msg(slot, f);
            }
        }
        return alike;
    }
}
