import java.util.ArrayList;
import java.util.Arrays;
import java.util.HashMap;
import java.util.List;
import java.util.Map;
import java.util.TreeMap;
import java.util.TreeSet;

/**
 * The document told a second time, with the Java library and with sets as sets, so that a slip in
 * the program's masks and indexes is not made here too.
 */
final class Reference {
    record Message(int kind, int src, int cfg, int x, int y, int z, TreeSet<Integer> dest) {
    }

    record Promise(int round, int value) {
    }

    static final class Proc {
        final int id;
        boolean crashed = false;
        int cfg;
        TreeSet<Integer> mem;
        TreeSet<Integer> lastCut;
        Map<Integer, TreeSet<Integer>> rep;
        Map<Integer, Integer> vote;
        int myVote;
        int promised;
        int accRnd;
        int accVal;
        int crnd;
        int phase;
        TreeMap<Integer, Promise> prom;
        int lrnd;
        TreeSet<Integer> lset;
        int lval;

        Proc(int id) {
            this.id = id;
        }

        void install(int c, TreeSet<Integer> members, TreeSet<Integer> cut) {
            cfg = c;
            mem = new TreeSet<>(members);
            lastCut = new TreeSet<>(cut);
            rep = new HashMap<>();
            vote = new HashMap<>();
            myVote = -1;
            promised = 0;
            accRnd = -1;
            accVal = 0;
            crnd = 0;
            phase = 0;
            prom = new TreeMap<>();
            lrnd = 0;
            lset = new TreeSet<>();
            lval = 0;
        }

        boolean isMember() {
            return !crashed && mem.contains(id);
        }

        int reports(int s) {
            return rep.getOrDefault(s, new TreeSet<>()).size();
        }

        int fq() {
            return (3 * mem.size() + 3) / 4;
        }

        int cq() {
            return mem.size() / 2 + 1;
        }
    }

    final int rings;
    final int high;
    final int low;
    final Proc[] procs = new Proc[16];
    final Message[] slots = new Message[32];
    /** How often each rule that a run should reach was reached. */
    final TreeMap<String, Integer> reached = new TreeMap<>();

    Reference(int n, int k, int h, int l) {
        int size = Math.max(3, Math.min(16, n));
        rings = Math.max(2, Math.min(6, k));
        high = Math.max(1, Math.min(rings, h));
        low = Math.max(1, Math.min(high, l));
        for (int p = 0; p < 16; p++) {
            procs[p] = new Proc(p);
            procs[p].install(0, set((1 << size) - 1), new TreeSet<>());
        }
    }

    static TreeSet<Integer> set(int mask) {
        TreeSet<Integer> ids = new TreeSet<>();
        for (int i = 0; i < 16; i++) {
            if ((mask & 1 << i) != 0) {
                ids.add(i);
            }
        }
        return ids;
    }

    static int mask(Iterable<Integer> ids) {
        int mask = 0;
        for (int id : ids) {
            mask += 1 << id;
        }
        return mask;
    }

    private void reach(String rule) {
        reached.merge(rule, 1, Integer::sum);
    }

    private static boolean id(int p) {
        return 0 <= p && p <= 15;
    }

    private int freeSlot() {
        return Arrays.asList(slots).indexOf(null);
    }

    private void send(Proc p, int kind, int x, int y, int z, Iterable<Integer> dest) {
        TreeSet<Integer> to = set(mask(dest));
        if (to.isEmpty()) {
            return;
        }
        int slot = freeSlot();
        if (slot == -1) {
            reach("lost kind " + kind);
        } else {
            slots[slot] = new Message(kind, p.id, p.cfg, x, y, z, to);
        }
    }

    int observer(int p, int s, int r) {
        if (!id(p) || !id(s) || r < 0 || r >= rings) {
            return -1;
        }
        // Steps along the ring from the subject's key to the first key that a member holds.
        for (int step = 1; step < 17; step++) {
            for (int y : procs[p].mem) {
                if (y != s && (y + 1) * (2 * r + 3) % 17 == ((s + 1) * (2 * r + 3) + step) % 17) {
                    return y;
                }
            }
        }
        return -1;
    }

    boolean observe(int o, int s) {
        if (!id(o) || !id(s) || o == s || !procs[o].isMember()) {
            return false;
        }
        int seen = 0;
        for (int r = 0; r < rings; r++) {
            seen += observer(o, s, r) == o ? 1 << r : 0;
        }
        if (seen == 0 || freeSlot() == -1) {
            return false;
        }
        reach(procs[o].mem.contains(s) ? "removal alert" : "join alert");
        send(procs[o], 1, s, seen, 0, procs[o].mem);
        return true;
    }

    boolean crash(int p) {
        if (!id(p) || procs[p].crashed) {
            return false;
        }
        return procs[p].crashed = true;
    }

    boolean fallback(int p) {
        if (!id(p) || !procs[p].isMember() || freeSlot() == -1) {
            return false;
        }
        Proc proc = procs[p];
        proc.crnd = (Math.max(proc.promised, proc.crnd) / 16 + 1) * 16 + p;
        proc.phase = 1;
        proc.prom.clear();
        send(proc, 3, proc.crnd, 0, 0, proc.mem);
        return true;
    }

    boolean drop(int slot, int p) {
        if (slot < 0 || slot >= 32 || slots[slot] == null || !slots[slot].dest.remove(p)) {
            return false;
        }
        if (slots[slot].dest.isEmpty()) {
            slots[slot] = null;
        }
        return true;
    }

    boolean deliver(int slot, int p) {
        Message m = slot < 0 || slot >= 32 ? null : slots[slot];
        if (!drop(slot, p)) {
            return false;
        }
        receive(procs[p], m);
        return true;
    }

    private void receive(Proc p, Message m) {
        if (p.crashed) {
            return;
        }
        if (m.kind == 7) {
            if (m.cfg > p.cfg) {
                reach(p.isMember() ? "welcome to a member" : "welcome to an outsider");
                reach(m.cfg > p.cfg + 1 ? "welcome far ahead" : "welcome to the next");
                p.install(m.cfg, set(m.x), set(m.y));
            } else {
                reach("welcome ignored");
            }
        } else if (!p.isMember()) {
            reach("kind " + m.kind + " to an outsider");
        } else if (m.cfg < p.cfg) {
            reach(m.src == p.id ? "own old message" : "old message");
            if (m.src != p.id) {
                send(p, 7, mask(p.mem), mask(p.lastCut), 0, List.of(m.src));
            }
        } else if (m.cfg > p.cfg) {
            reach("newer message");
        } else {
            switch (m.kind) {
                case 1 -> alert(p, m);
                case 2 -> vote(p, m);
                case 3 -> prepare(p, m);
                case 4 -> promise(p, m);
                case 5 -> accept(p, m);
                default -> accepted(p, m);
            }
        }
    }

    private void alert(Proc p, Message m) {
        p.rep.computeIfAbsent(m.x, s -> new TreeSet<>()).addAll(set(m.y));
        if (p.myVote != -1 || p.promised != 0) {
            reach("alert too late");
            return;
        }
        TreeSet<Integer> stable = new TreeSet<>();
        boolean unstable = false;
        for (int s : p.rep.keySet()) {
            int reports = p.reports(s);
            if (reports >= high) {
                stable.add(s);
            }
            unstable |= low <= reports && reports < high;
        }
        if (stable.isEmpty() || unstable) {
            reach(stable.isEmpty() ? "nothing stable" : "something unstable");
            return;
        }
        reach(stable.size() > 1 ? "proposal of several" : "proposal of one");
        p.myVote = mask(stable);
        p.accRnd = 0;
        p.accVal = p.myVote;
        send(p, 2, p.myVote, 0, 0, p.mem);
    }

    private void vote(Proc p, Message m) {
        if (p.vote.containsKey(m.src)) {
            reach("second vote");
            return;
        }
        p.vote.put(m.src, m.x);
        if (p.vote.values().stream().filter(x -> x == m.x).count() >= p.fq()) {
            reach("fast decision");
            decide(p, set(m.x));
        }
    }

    private void prepare(Proc p, Message m) {
        if (m.x > p.promised) {
            p.promised = m.x;
            send(p, 4, m.x, p.accRnd, p.accVal, List.of(m.src));
        } else {
            reach("prepare refused");
        }
    }

    private void promise(Proc p, Message m) {
        if (p.phase != 1 || m.x != p.crnd || p.prom.containsKey(m.src)) {
            reach("promise refused");
            return;
        }
        p.prom.put(m.src, new Promise(m.y, m.z));
        if (p.prom.size() != p.cq()) {
            return;
        }
        int v = choose(p);
        if (v == -1) {
            p.phase = 0;
        } else {
            p.phase = 2;
            send(p, 5, p.crnd, v, 0, p.mem);
        }
    }

    private int choose(Proc p) {
        List<Promise> promises = new ArrayList<>(p.prom.values());
        int newest = promises.stream().mapToInt(Promise::round).max().getAsInt();
        if (newest >= 16) {
            reach("choose a");
            return promises.stream().filter(w -> w.round == newest).findFirst().get().value;
        }
        List<Promise> fast = promises.stream().filter(w -> w.round == 0).toList();
        for (Promise w : fast) {
            long alike = fast.stream().filter(other -> other.value == w.value).count();
            if (alike >= p.fq() + p.cq() - p.mem.size()) {
                reach(w.value == fast.get(0).value ? "choose b" : "choose b, not the first");
                return w.value;
            }
        }
        if (!fast.isEmpty()) {
            reach("choose c");
            return fast.get(0).value;
        }
        reach(p.myVote != -1 ? "choose d" : "choose e");
        return p.myVote;
    }

    private void accept(Proc p, Message m) {
        if (m.x < p.promised) {
            reach("accept refused");
            return;
        }
        p.promised = m.x;
        p.accRnd = m.x;
        p.accVal = m.y;
        send(p, 6, m.x, m.y, 0, p.mem);
    }

    private void accepted(Proc p, Message m) {
        if (m.x < p.lrnd) {
            reach("accepted of an older round");
            return;
        }
        if (m.x > p.lrnd) {
            reach(p.lrnd == 0 ? "accepted of a first round" : "accepted of a newer round");
            p.lrnd = m.x;
            p.lset.clear();
            p.lval = m.y;
        }
        p.lset.add(m.src);
        if (p.lset.size() >= p.cq()) {
            reach("classic decision");
            decide(p, set(p.lval));
        }
    }

    private void decide(Proc p, TreeSet<Integer> cut) {
        TreeSet<Integer> next = new TreeSet<>();
        for (int i = 0; i < 16; i++) {
            if (p.mem.contains(i) != cut.contains(i)) {
                next.add(i);
            }
        }
        p.install(p.cfg + 1, next, cut);
        TreeSet<Integer> others = new TreeSet<>(cut);
        reach(others.remove(p.id) ? "decider in the cut" : "decider not in the cut");
        send(p, 7, mask(next), mask(cut), 0, others);
    }

    int msg(int slot, int f) {
        if (slot < 0 || slot >= 32 || f < 0 || f > 6 || slots[slot] == null) {
            return 0;
        }
        Message m = slots[slot];
        return new int[] {m.kind, m.src, m.cfg, m.x, m.y, m.z, mask(m.dest)}[f];
    }

    int status(int p) {
        return !id(p) ? 0 : procs[p].crashed ? 3 : procs[p].mem.contains(p) ? 1 : 2;
    }

    int paxos(int p, int f) {
        if (!id(p) || f < 0 || f > 7) {
            return 0;
        }
        Proc q = procs[p];
        return new int[] {
            q.promised, q.accRnd, q.accVal, q.crnd, q.phase, q.lrnd, q.lset.size(), q.prom.size()}[f];
    }
}
