/**
 * A whole cluster of processes 0..15 in one object: observers' alarms are counted into cuts, the
 * cuts are agreed on, and every agreed cut makes the next numbered member set.
 */
public final class CutDetectMember {
    public static final int SLOTS = 32;
    public static final int ALERT = 1;
    public static final int VOTE = 2;
    public static final int PREPARE = 3;
    public static final int PROMISE = 4;
    public static final int ACCEPT = 5;
    public static final int ACCEPTED = 6;
    public static final int WELCOME = 7;
    public static final int F_KIND = 0;
    public static final int F_SRC = 1;
    public static final int F_CFG = 2;
    public static final int F_X = 3;
    public static final int F_Y = 4;
    public static final int F_Z = 5;
    public static final int F_DEST = 6;
    public static final int ST_NONE = 0;
    public static final int ST_MEMBER = 1;
    public static final int ST_OUT = 2;
    public static final int ST_CRASHED = 3;
    public static final int P_PROMISED = 0;
    public static final int P_ACCRND = 1;
    public static final int P_ACCVAL = 2;
    public static final int P_CRND = 3;
    public static final int P_PHASE = 4;
    public static final int P_LRND = 5;
    public static final int P_LCOUNT = 6;
    public static final int P_PCOUNT = 7;

    private static final int PROCS = 16;
    private static final int ALL_PROCS = 0xFFFF;
    /** PROCS times PROCS: one cell for each ordered pair of processes. */
    private static final int PAIRS = 256;
    private static final int FIELDS = 7;
    /** SLOTS times FIELDS. */
    private static final int SLOT_CELLS = 224;
    private static final int RING_SIZE = 17;
    private static final int MIN_MEMBERS = 3;
    private static final int MIN_RINGS = 2;
    private static final int MAX_RINGS = 6;
    /** Stands for no process, no slot or no value: none of these is ever negative. */
    private static final int NONE = -1;
    private static final int FAST_ROUND = 0;
    private static final int FIRST_CLASSIC_ROUND = 16;
    private static final int IDLE = 0;
    private static final int COLLECTING = 1;
    private static final int ACCEPT_SENT = 2;

    private final int rings;
    private final int high;
    private final int low;

    private final boolean[] crashed = new boolean[PROCS];
    private final int[] config = new int[PROCS];
    private final int[] members = new int[PROCS];
    private final int[] newestCut = new int[PROCS];

    private final int[] reports = new int[PAIRS];
    private final int[] votes = new int[PAIRS];
    private final int[] myVote = new int[PROCS];
    private final int[] promised = new int[PROCS];
    private final int[] acceptedRound = new int[PROCS];
    private final int[] acceptedValue = new int[PROCS];
    private final int[] ownRound = new int[PROCS];
    private final int[] phase = new int[PROCS];
    private final int[] promisers = new int[PROCS];
    private final int[] promiserRound = new int[PAIRS];
    private final int[] promiserValue = new int[PAIRS];
    private final int[] learnedRound = new int[PROCS];
    private final int[] learnedFrom = new int[PROCS];
    private final int[] learnedValue = new int[PROCS];

    private final int[] slots = new int[SLOT_CELLS];

    public CutDetectMember(int n, int k, int h, int l) {
        int size = clamp(n, MIN_MEMBERS, PROCS);
        rings = clamp(k, MIN_RINGS, MAX_RINGS);
        high = clamp(h, 1, rings);
        low = clamp(l, 1, high);
        int first = (1 << size) - 1;
        for (int p = 0; p < PROCS; p++) {
            install(p, 0, first, 0);
        }
    }

    public boolean observe(int o, int s) {
        if (!isProcess(o) || !isProcess(s) || o == s || status(o) != ST_MEMBER) {
            return false;
        }
        int watched = ringsWatched(o, s);
        if (watched == 0 || lowestFreeSlot() == NONE) {
            return false;
        }
        send(o, ALERT, s, watched, 0, members[o]);
        return true;
    }

    public boolean crash(int p) {
        if (!isProcess(p) || crashed[p]) {
            return false;
        }
        crashed[p] = true;
        return true;
    }

    public boolean fallback(int p) {
        if (!isProcess(p) || status(p) != ST_MEMBER || lowestFreeSlot() == NONE) {
            return false;
        }
        int newest = promised[p] > ownRound[p] ? promised[p] : ownRound[p];
        ownRound[p] = (newest / PROCS + 1) * PROCS + p;
        phase[p] = COLLECTING;
        promisers[p] = 0;
        send(p, PREPARE, ownRound[p], 0, 0, members[p]);
        return true;
    }

    public boolean deliver(int slot, int p) {
        if (!awaits(slot, p)) {
            return false;
        }
        // All fields are read before the slot may be freed and taken by an answer to this message.
        int at = slot * FIELDS;
        int kind = slots[at + F_KIND];
        int src = slots[at + F_SRC];
        int cfg = slots[at + F_CFG];
        int x = slots[at + F_X];
        int y = slots[at + F_Y];
        int z = slots[at + F_Z];
        takeOff(slot, p);
        if (crashed[p]) {
            return true;
        }
        if (kind == WELCOME) {
            if (cfg > config[p]) {
                install(p, cfg, x, y);
            }
        } else if (status(p) == ST_MEMBER) {
            receiveAsMember(p, kind, src, cfg, x, y, z);
        }
        return true;
    }

    public boolean drop(int slot, int p) {
        if (!awaits(slot, p)) {
            return false;
        }
        takeOff(slot, p);
        return true;
    }

    public int msg(int slot, int f) {
        if (slot < 0 || slot >= SLOTS || f < 0 || f >= FIELDS) {
            return 0;
        }
        return slots[slot * FIELDS + f];
    }

    public int status(int p) {
        if (!isProcess(p)) {
            return ST_NONE;
        }
        if (crashed[p]) {
            return ST_CRASHED;
        }
        return has(members[p], p) ? ST_MEMBER : ST_OUT;
    }

    public int configOf(int p) {
        return isProcess(p) ? config[p] : 0;
    }

    public int membersOf(int p) {
        return isProcess(p) ? members[p] : 0;
    }

    public int lastCut(int p) {
        return isProcess(p) ? newestCut[p] : 0;
    }

    public int reportCount(int p, int s) {
        if (!isProcess(p) || !isProcess(s)) {
            return 0;
        }
        return count(reports[p * PROCS + s]);
    }

    public int proposalOf(int p) {
        return isProcess(p) ? myVote[p] : NONE;
    }

    public int voteOf(int p, int q) {
        if (!isProcess(p) || !isProcess(q)) {
            return NONE;
        }
        return votes[p * PROCS + q];
    }

    public int observer(int p, int s, int r) {
        if (!isProcess(p) || !isProcess(s) || r < 0 || r >= rings) {
            return NONE;
        }
        return nearestOnRing(members[p], s, r);
    }

    public int paxos(int p, int f) {
        if (!isProcess(p)) {
            return 0;
        }
        switch (f) {
            case P_PROMISED:
                return promised[p];
            case P_ACCRND:
                return acceptedRound[p];
            case P_ACCVAL:
                return acceptedValue[p];
            case P_CRND:
                return ownRound[p];
            case P_PHASE:
                return phase[p];
            case P_LRND:
                return learnedRound[p];
            case P_LCOUNT:
                return count(learnedFrom[p]);
            case P_PCOUNT:
                return count(promisers[p]);
            default:
                return 0;
        }
    }

    private static int clamp(int value, int least, int greatest) {
        if (value < least) {
            return least;
        }
        return value > greatest ? greatest : value;
    }

    private static boolean isProcess(int p) {
        return p >= 0 && p < PROCS;
    }

    private static boolean has(int set, int p) {
        return ((set >> p) & 1) != 0;
    }

    private static int count(int set) {
        int ones = 0;
        for (int i = 0; i < PROCS; i++) {
            ones += (set >> i) & 1;
        }
        return ones;
    }

    private static int key(int r, int x) {
        return ((x + 1) * (2 * r + 3)) % RING_SIZE;
    }

    private static int nearestOnRing(int set, int s, int r) {
        int nearest = NONE;
        int least = RING_SIZE;
        int start = key(r, s);
        for (int y = 0; y < PROCS; y++) {
            int distance = (key(r, y) - start + RING_SIZE) % RING_SIZE;
            if (y != s && has(set, y) && distance < least) {
                nearest = y;
                least = distance;
            }
        }
        return nearest;
    }

    private int ringsWatched(int o, int s) {
        int watched = 0;
        for (int r = 0; r < rings; r++) {
            if (nearestOnRing(members[o], s, r) == o) {
                watched |= 1 << r;
            }
        }
        return watched;
    }

    private static int fastQuorum(int size) {
        return (3 * size + 3) / 4;
    }

    private static int classicQuorum(int size) {
        return size / 2 + 1;
    }

    private int lowestFreeSlot() {
        for (int slot = 0; slot < SLOTS; slot++) {
            if (slots[slot * FIELDS + F_DEST] == 0) {
                return slot;
            }
        }
        return NONE;
    }

    private boolean awaits(int slot, int p) {
        if (slot < 0 || slot >= SLOTS || !isProcess(p)) {
            return false;
        }
        return has(slots[slot * FIELDS + F_DEST], p);
    }

    private void takeOff(int slot, int p) {
        int at = slot * FIELDS;
        slots[at + F_DEST] &= ~(1 << p);
        if (slots[at + F_DEST] != 0) {
            return;
        }
        for (int f = 0; f < FIELDS; f++) {
            slots[at + f] = 0;
        }
    }

    private void send(int p, int kind, int x, int y, int z, int dest) {
        int slot = lowestFreeSlot();
        // A slot without receivers would read as free while its other fields are not 0.
        if ((dest & ALL_PROCS) == 0 || slot == NONE) {
            return;
        }
        int at = slot * FIELDS;
        slots[at + F_KIND] = kind;
        slots[at + F_SRC] = p;
        slots[at + F_CFG] = config[p];
        slots[at + F_X] = x;
        slots[at + F_Y] = y;
        slots[at + F_Z] = z;
        slots[at + F_DEST] = dest & ALL_PROCS;
    }

    private void install(int p, int number, int set, int cut) {
        config[p] = number;
        members[p] = set;
        newestCut[p] = cut;
        for (int q = 0; q < PROCS; q++) {
            reports[p * PROCS + q] = 0;
            votes[p * PROCS + q] = NONE;
        }
        myVote[p] = NONE;
        promised[p] = 0;
        acceptedRound[p] = NONE;
        acceptedValue[p] = 0;
        ownRound[p] = 0;
        phase[p] = IDLE;
        promisers[p] = 0;
        learnedRound[p] = 0;
        learnedFrom[p] = 0;
        learnedValue[p] = 0;
    }

    private void decide(int p, int cut) {
        install(p, config[p] + 1, members[p] ^ cut, cut);
        send(p, WELCOME, members[p], cut, 0, cut & ~(1 << p));
    }

    private void receiveAsMember(int p, int kind, int q, int cfg, int x, int y, int z) {
        if (cfg < config[p]) {
            if (q != p) {
                send(p, WELCOME, members[p], newestCut[p], 0, 1 << q);
            }
            return;
        }
        if (cfg > config[p]) {
            return;
        }
        switch (kind) {
            case ALERT:
                onAlert(p, x, y);
                break;
            case VOTE:
                onVote(p, q, x);
                break;
            case PREPARE:
                onPrepare(p, q, x);
                break;
            case PROMISE:
                onPromise(p, q, x, y, z);
                break;
            case ACCEPT:
                onAccept(p, x, y);
                break;
            case ACCEPTED:
                onAccepted(p, q, x, y);
                break;
            default:
                break;
        }
    }

    private void onAlert(int p, int subject, int ringMask) {
        reports[p * PROCS + subject] |= ringMask;
        // After a promise a fast vote could contradict what that promise told its coordinator.
        if (myVote[p] == NONE && promised[p] == 0) {
            proposeIfSettled(p);
        }
    }

    private void proposeIfSettled(int p) {
        int stable = 0;
        for (int s = 0; s < PROCS; s++) {
            int reported = count(reports[p * PROCS + s]);
            if (reported >= high) {
                stable |= 1 << s;
            } else if (reported >= low) {
                return;
            }
        }
        if (stable == 0) {
            return;
        }
        myVote[p] = stable;
        acceptedRound[p] = FAST_ROUND;
        acceptedValue[p] = stable;
        send(p, VOTE, stable, 0, 0, members[p]);
    }

    private void onVote(int p, int q, int cut) {
        if (votes[p * PROCS + q] != NONE) {
            return;
        }
        votes[p * PROCS + q] = cut;
        int same = 0;
        for (int other = 0; other < PROCS; other++) {
            if (votes[p * PROCS + other] == cut) {
                same++;
            }
        }
        int size = count(members[p]);
        if (same >= fastQuorum(size)) {
            decide(p, cut);
        }
    }

    private void onPrepare(int p, int q, int round) {
        if (round > promised[p]) {
            promised[p] = round;
            send(p, PROMISE, round, acceptedRound[p], acceptedValue[p], 1 << q);
        }
    }

    private void onPromise(int p, int q, int round, int itsRound, int itsValue) {
        if (phase[p] != COLLECTING || round != ownRound[p] || has(promisers[p], q)) {
            return;
        }
        promisers[p] |= 1 << q;
        promiserRound[p * PROCS + q] = itsRound;
        promiserValue[p * PROCS + q] = itsValue;
        int size = count(members[p]);
        if (count(promisers[p]) != classicQuorum(size)) {
            return;
        }
        int source = chosenPromiser(p);
        if (source == NONE && myVote[p] == NONE) {
            phase[p] = IDLE;
            return;
        }
        int value = source == NONE ? myVote[p] : promiserValue[p * PROCS + source];
        phase[p] = ACCEPT_SENT;
        send(p, ACCEPT, ownRound[p], value, 0, members[p]);
    }

    private int chosenPromiser(int p) {
        int source = newestClassicPromiser(p);
        if (source != NONE) {
            return source;
        }
        int voters = fastPromisers(p);
        source = possiblyDecisiveVoter(p, voters);
        return source == NONE ? leastOf(voters) : source;
    }

    private int newestClassicPromiser(int p) {
        int source = NONE;
        int newest = FIRST_CLASSIC_ROUND - 1;
        for (int q = 0; q < PROCS; q++) {
            if (has(promisers[p], q) && promiserRound[p * PROCS + q] > newest) {
                newest = promiserRound[p * PROCS + q];
                source = q;
            }
        }
        return source;
    }

    private int fastPromisers(int p) {
        int voters = 0;
        for (int q = 0; q < PROCS; q++) {
            if (has(promisers[p], q) && promiserRound[p * PROCS + q] == FAST_ROUND) {
                voters |= 1 << q;
            }
        }
        return voters;
    }

    private int possiblyDecisiveVoter(int p, int voters) {
        int size = count(members[p]);
        // So many of any fast quorum are in every classic quorum: a value with fewer cannot be chosen.
        int enough = fastQuorum(size) + classicQuorum(size) - size;
        for (int q = 0; q < PROCS; q++) {
            int same = 0;
            for (int other = 0; other < PROCS; other++) {
                if (has(voters, other) && promiserValue[p * PROCS + other] == promiserValue[p * PROCS + q]) {
                    same++;
                }
            }
            if (has(voters, q) && same >= enough) {
                return q;
            }
        }
        return NONE;
    }

    private static int leastOf(int set) {
        for (int q = 0; q < PROCS; q++) {
            if (has(set, q)) {
                return q;
            }
        }
        return NONE;
    }

    private void onAccept(int p, int round, int value) {
        if (round >= promised[p]) {
            promised[p] = round;
            acceptedRound[p] = round;
            acceptedValue[p] = value;
            send(p, ACCEPTED, round, value, 0, members[p]);
        }
    }

    private void onAccepted(int p, int q, int round, int value) {
        if (round < learnedRound[p]) {
            return;
        }
        if (round > learnedRound[p]) {
            learnedRound[p] = round;
            learnedFrom[p] = 0;
            learnedValue[p] = value;
        }
        learnedFrom[p] |= 1 << q;
        int size = count(members[p]);
        if (count(learnedFrom[p]) >= classicQuorum(size)) {
            decide(p, learnedValue[p]);
        }
    }
}
