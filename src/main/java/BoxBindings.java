import java.util.Arrays;

/** A box between two nets that lends its few outer ports to many ports inside. */
public final class BoxBindings {
    public static final int UNKNOWN = -1, OUTSIDE = -2, STATE = -3, FULL = -4, NO = -5, NONE = -6;

    private static final int HOSTS = 4, PORTS = 32;
    // The box is a remote too, the last one, and its ports are the outer ports.
    private static final int REMOTES = 5, BOX = 4, OUTERS = 16;
    private static final int BLOCKS = 4, BLOCK_SIZE = 4;
    private static final int NEW = 0, OPEN = 1, CLOSING = 2;
    private static final int FLAGS = 3, FLAG_NONE = 0, FLAG_OPEN = 1, FLAG_CLOSE = 2;
    private static final int LET_IN = 0, NOT_LENT = 1, FILTERED = 2;

    private static final int RULES = 6, MAPPING = 0, FILTER = 1, PARITY = 2;
    private static final int LIFE_NEW = 3, LIFE_OPEN = 4, LIFE_CLOSING = 5;
    private static final int[] RULE_FIRST = {0, 0, 0, 4, 20, 2};
    private static final int[] RULE_LEAST = {0, 0, 0, 1, 1, 1};
    private static final int[] RULE_MOST = {2, 2, 1, 60, 60, 60};

    private static final int PACKET_REMOTES = 4, NAMES = 8, PARTS = 8, PACKETS = 32;
    private static final int HELD_MOST = 6, PACKET_TICKS = 5;

    private static final int TICKS_LEAST = 1, TICKS_MOST = 100;
    private static final int IMAGES = 2;
    private static final int OF_KINDS = 6, HOST_KINDS = 4, COUNT_RULES = 10;

    private final Box now = new Box();
    private final Box[] images = {new Box(), new Box()};
    private final boolean[] kept = new boolean[IMAGES];

    public BoxBindings() {
    }

    // ---- 1 rules, packets

    public int rule(int what, int v) {
        if (!isBelow(what, RULES) || v < RULE_LEAST[what] || v > RULE_MOST[what]) {
            return OUTSIDE;
        }
        return now.setRule(what, v);
    }

    public int out(int host, int port, int remote, int remotePort, int flag) {
        if (!isBelow(host, HOSTS)) {
            return UNKNOWN;
        }
        if (!isBelow(port, PORTS) || !isRemotePort(remote, remotePort) || !isBelow(flag, FLAGS)) {
            return OUTSIDE;
        }
        return now.goOut(host, port, remote, remotePort, flag);
    }

    public int in(int remote, int remotePort, int outer, int flag) {
        if (!isRemotePort(remote, remotePort)) {
            return OUTSIDE;
        }
        if (!isBelow(outer, OUTERS)) {
            return UNKNOWN;
        }
        if (!isBelow(flag, FLAGS)) {
            return OUTSIDE;
        }
        return now.comeIn(remote, remotePort, outer, flag);
    }

    public int turn(int host, int port, int outer, int flag) {
        if (!isBelow(host, HOSTS)) {
            return UNKNOWN;
        }
        if (!isBelow(port, PORTS)) {
            return OUTSIDE;
        }
        if (!isBelow(outer, OUTERS)) {
            return UNKNOWN;
        }
        if (!isBelow(flag, FLAGS)) {
            return OUTSIDE;
        }
        int through = now.goOut(host, port, BOX, outer, flag);
        return through == NO ? NO : now.comeIn(BOX, through, outer, flag);
    }

    public int part(int remote, int name, int part, int remotePort, int outer) {
        if (!isBelow(remote, PACKET_REMOTES) || !isBelow(name, NAMES) || !isBelow(part, PARTS)) {
            return OUTSIDE;
        }
        int packet = remote * NAMES + name;
        if (part != 0) {
            return now.takeOtherPart(packet, part);
        }
        if (!isRemotePort(remote, remotePort)) {
            return OUTSIDE;
        }
        if (!isBelow(outer, OUTERS)) {
            return UNKNOWN;
        }
        return now.takeFirstPart(packet, remote, remotePort, outer);
    }

    public int tick(int n) {
        if (n < TICKS_LEAST || n > TICKS_MOST) {
            return OUTSIDE;
        }
        return now.passTicks(n);
    }

    public int drop(int host) {
        if (!isBelow(host, HOSTS)) {
            return UNKNOWN;
        }
        return now.endBindingsOf(host);
    }

    // ---- 2 what is told

    public int of(int outer, int what) {
        if (!isBelow(outer, OUTERS)) {
            return UNKNOWN;
        }
        if (!isBelow(what, OF_KINDS)) {
            return OUTSIDE;
        }
        return now.lent.isLent(outer) ? now.tellOfBinding(outer, what) : NONE;
    }

    public int sent(int outer, int remote, int remotePort) {
        if (!isBelow(outer, OUTERS)) {
            return UNKNOWN;
        }
        if (!isRemotePort(remote, remotePort)) {
            return OUTSIDE;
        }
        if (!now.lent.isLent(outer)) {
            return NONE;
        }
        return now.lent.isSent(outer, remote, remotePort) ? 1 : 0;
    }

    public int find(int host, int port, int remote, int remotePort) {
        if (!isBelow(host, HOSTS)) {
            return UNKNOWN;
        }
        if (!isBelow(port, PORTS) || !isRemotePort(remote, remotePort)) {
            return OUTSIDE;
        }
        return now.lent.seek(host * PORTS + port, remote, remotePort);
    }

    public int next(int host, int port) {
        if (!isBelow(host, HOSTS)) {
            return UNKNOWN;
        }
        if (!isBelow(port, PORTS)) {
            return OUTSIDE;
        }
        return now.choose(host, port);
    }

    public int why(int remote, int remotePort, int outer) {
        if (!isRemotePort(remote, remotePort)) {
            return OUTSIDE;
        }
        if (!isBelow(outer, OUTERS)) {
            return UNKNOWN;
        }
        return now.reasonAgainst(remote, remotePort, outer);
    }

    public int block(int block) {
        if (!isBelow(block, BLOCKS)) {
            return UNKNOWN;
        }
        return now.lent.holderOf(block);
    }

    public int host(int host, int what) {
        if (!isBelow(host, HOSTS)) {
            return UNKNOWN;
        }
        if (!isBelow(what, HOST_KINDS)) {
            return OUTSIDE;
        }
        return now.tellOfHost(host, what);
    }

    public int soon() {
        return now.leastTicksLeft();
    }

    // ---- 3 images

    public int image(int k) {
        if (!isBelow(k, IMAGES)) {
            return OUTSIDE;
        }
        images[k].becomeLike(now);
        kept[k] = true;
        return 1;
    }

    public int restore(int k) {
        if (!isBelow(k, IMAGES)) {
            return OUTSIDE;
        }
        if (!kept[k]) {
            return STATE;
        }
        now.becomeLike(images[k]);
        return 1;
    }

    public int count(int what) {
        switch (what) {
            case 0: return now.lent.countAll();
            case 1: return now.time;
            case 2: return now.lent.countFreeBlocks();
            case 3: return now.parts.countHeld();
            case 4: return now.parts.countKnown();
            case 5: return (kept[0] ? 1 : 0) + (kept[1] ? 2 : 0);
            default: return ruleAt(what);
        }
    }

    private int ruleAt(int what) {
        if (what < COUNT_RULES || what >= COUNT_RULES + RULES) {
            return OUTSIDE;
        }
        return now.rules[what - COUNT_RULES];
    }

    private static boolean isBelow(int number, int bound) {
        return number >= 0 && number < bound;
    }

    private static boolean isRemotePort(int remote, int remotePort) {
        return isBelow(remote, REMOTES) && isBelow(remotePort, remote == BOX ? OUTERS : PORTS);
    }

    /** All that an IMAGE keeps; every method takes numbers that the face has tested. */
    private static final class Box {
        final int[] rules = RULE_FIRST.clone();
        final Bindings lent = new Bindings();
        final Packets parts = new Packets();
        int time = 0;

        int setRule(int what, int v) {
            int was = rules[what];
            rules[what] = v;
            if (what == MAPPING && v != was) {
                endAll();
            }
            // A shorter LIFE may be over already.
            endLapsed();
            return was;
        }

        int goOut(int host, int port, int remote, int remotePort, int flag) {
            int outer = lent.seek(host * PORTS + port, remote, remotePort);
            if (outer == NONE) {
                outer = makeBinding(host, port, remote, remotePort);
            }
            if (outer == NONE) {
                return NO;
            }
            lent.markSent(outer, remote, remotePort);
            lent.used[outer] = time;
            if (flag == FLAG_CLOSE) {
                lent.is[outer] = CLOSING;
            } else if (flag == FLAG_OPEN && lent.is[outer] == CLOSING) {
                lent.is[outer] = NEW;
            }
            return outer;
        }

        int makeBinding(int host, int port, int remote, int remotePort) {
            int outer = choose(host, port);
            if (outer == NONE) {
                return NONE;
            }
            int onlyRemote = rules[MAPPING] >= 1 ? remote : NONE;
            int onlyPort = rules[MAPPING] >= 2 ? remotePort : NONE;
            lent.lend(outer, host * PORTS + port, onlyRemote, onlyPort);
            return outer;
        }

        int comeIn(int remote, int remotePort, int outer, int flag) {
            if (reasonAgainst(remote, remotePort, outer) != LET_IN) {
                return NONE;
            }
            lent.used[outer] = time;
            if (flag == FLAG_CLOSE) {
                lent.is[outer] = CLOSING;
            } else if (lent.is[outer] == NEW) {
                lent.is[outer] = OPEN;
            }
            return lent.inner[outer];
        }

        int reasonAgainst(int remote, int remotePort, int outer) {
            if (!lent.isLent(outer)) {
                return NOT_LENT;
            }
            if (rules[FILTER] == 1 && !lent.isAnySent(outer, remote)) {
                return FILTERED;
            }
            if (rules[FILTER] == 2 && !lent.isSent(outer, remote, remotePort)) {
                return FILTERED;
            }
            return LET_IN;
        }

        int takeFirstPart(int packet, int remote, int remotePort, int outer) {
            boolean letIn = comeIn(remote, remotePort, outer, FLAG_NONE) != NONE;
            int released = parts.releaseHeld(packet);
            if (!letIn) {
                parts.forget(packet);
                return NONE;
            }
            parts.know(packet, outer, time);
            return 1 + released;
        }

        int takeOtherPart(int packet, int part) {
            return parts.isKnown(packet) ? 1 : parts.hold(packet, part, time);
        }

        int passTicks(int n) {
            time += n;
            parts.endOld(time);
            return endLapsed();
        }

        int choose(int host, int port) {
            int like = port % OUTERS;
            int likeBlock = like / BLOCK_SIZE;
            if (isFit(like, port) && lent.holderOf(likeBlock) == host) {
                return like;
            }
            int own = leastFitOfHolder(host, port);
            if (own != NONE) {
                return own;
            }
            // A BLOCK that is nobody's has nothing lent, so LIKE always FITS in it.
            if (lent.holderOf(likeBlock) == NONE) {
                return like;
            }
            return leastFitOfHolder(NONE, port);
        }

        boolean isFit(int outer, int port) {
            return !lent.isLent(outer) && (rules[PARITY] == 0 || outer % 2 == port % 2);
        }

        /** With NONE as holder: of the BLOCKS that are nobody's, and so of the least of them. */
        int leastFitOfHolder(int holder, int port) {
            for (int outer = 0; outer < OUTERS; outer++) {
                if (lent.holderOf(outer / BLOCK_SIZE) == holder && isFit(outer, port)) {
                    return outer;
                }
            }
            return NONE;
        }

        int tellOfBinding(int outer, int what) {
            switch (what) {
                case 0: return lent.inner[outer];
                case 1: return lent.is[outer];
                case 2: return ticksLeft(outer);
                case 3: return lent.countSent(outer);
                case 4: return lent.onlyRemote[outer];
                default: return lent.onlyPort[outer];
            }
        }

        int tellOfHost(int host, int what) {
            switch (what) {
                case 0: return lent.countOfHost(host);
                case 1: return lent.blocksOf(host);
                case 2: return countFitFor(host, 0);
                default: return countFitFor(host, 1);
            }
        }

        // A HOST has as many ports of either kind as there are OUTER PORTS, and each BINDING
        // takes one of both at most, so only the OUTER PORTS that it can still get set the limit.
        int countFitFor(int host, int port) {
            int fit = 0;
            for (int outer = 0; outer < OUTERS; outer++) {
                int holder = lent.holderOf(outer / BLOCK_SIZE);
                if ((holder == host || holder == NONE) && isFit(outer, port)) {
                    fit++;
                }
            }
            return fit;
        }

        int lifeOf(int outer) {
            switch (lent.is[outer]) {
                case NEW: return rules[LIFE_NEW];
                case OPEN: return rules[LIFE_OPEN];
                default: return rules[LIFE_CLOSING];
            }
        }

        int ticksLeft(int outer) {
            return lent.used[outer] + lifeOf(outer) - time;
        }

        int leastTicksLeft() {
            int least = NONE;
            for (int outer = 0; outer < OUTERS; outer++) {
                if (lent.isLent(outer) && (least == NONE || ticksLeft(outer) < least)) {
                    least = ticksLeft(outer);
                }
            }
            return least;
        }

        int endLapsed() {
            int ended = 0;
            for (int outer = 0; outer < OUTERS; outer++) {
                if (lent.isLent(outer) && ticksLeft(outer) <= 0) {
                    endBinding(outer);
                    ended++;
                }
            }
            return ended;
        }

        int endBindingsOf(int host) {
            int ended = 0;
            for (int outer = 0; outer < OUTERS; outer++) {
                if (lent.hostOf(outer) == host) {
                    endBinding(outer);
                    ended++;
                }
            }
            return ended;
        }

        void endAll() {
            for (int outer = 0; outer < OUTERS; outer++) {
                endBinding(outer);
            }
        }

        // A packet is KNOWN by its BINDING alone, not by a later one of the same OUTER PORT.
        void endBinding(int outer) {
            lent.unlend(outer);
            parts.forgetAllOf(outer);
        }

        void becomeLike(Box other) {
            System.arraycopy(other.rules, 0, rules, 0, RULES);
            lent.copyBindings(other.lent);
            parts.copyPackets(other.parts);
            time = other.time;
        }
    }

    /** The BINDINGS, each at the OUTER PORT that it lends. */
    private static final class Bindings {
        // 32 times the HOST and its port, added; NONE: the OUTER PORT is not lent.
        final int[] inner = new int[OUTERS];
        final int[] is = new int[OUTERS];
        final int[] used = new int[OUTERS];
        // NONE: it is for all.
        final int[] onlyRemote = new int[OUTERS];
        final int[] onlyPort = new int[OUTERS];
        // For each OUTER PORT and REMOTE the ports that are SENT, a bit for each.
        final int[] sentBits = new int[OUTERS * REMOTES];

        Bindings() {
            Arrays.fill(inner, NONE);
        }

        boolean isLent(int outer) {
            return inner[outer] != NONE;
        }

        int hostOf(int outer) {
            return inner[outer] == NONE ? NONE : inner[outer] / PORTS;
        }

        int seek(int innerPort, int remote, int remotePort) {
            for (int outer = 0; outer < OUTERS; outer++) {
                if (inner[outer] == innerPort && isFor(outer, remote, remotePort)) {
                    return outer;
                }
            }
            return NONE;
        }

        boolean isFor(int outer, int remote, int remotePort) {
            return (onlyRemote[outer] == NONE || onlyRemote[outer] == remote)
                && (onlyPort[outer] == NONE || onlyPort[outer] == remotePort);
        }

        void lend(int outer, int innerPort, int remote, int remotePort) {
            inner[outer] = innerPort;
            is[outer] = NEW;
            onlyRemote[outer] = remote;
            onlyPort[outer] = remotePort;
            for (int i = 0; i < REMOTES; i++) {
                sentBits[outer * REMOTES + i] = 0;
            }
        }

        void unlend(int outer) {
            inner[outer] = NONE;
        }

        void markSent(int outer, int remote, int remotePort) {
            sentBits[outer * REMOTES + remote] |= 1 << remotePort;
        }

        boolean isSent(int outer, int remote, int remotePort) {
            return (sentBits[outer * REMOTES + remote] >>> remotePort & 1) == 1;
        }

        boolean isAnySent(int outer, int remote) {
            return sentBits[outer * REMOTES + remote] != 0;
        }

        int countSent(int outer) {
            int ports = 0;
            for (int remote = 0; remote < REMOTES; remote++) {
                ports += Integer.bitCount(sentBits[outer * REMOTES + remote]);
            }
            return ports;
        }

        int countAll() {
            int all = 0;
            for (int outer = 0; outer < OUTERS; outer++) {
                if (isLent(outer)) {
                    all++;
                }
            }
            return all;
        }

        int countOfHost(int host) {
            int bindings = 0;
            for (int outer = 0; outer < OUTERS; outer++) {
                if (hostOf(outer) == host) {
                    bindings++;
                }
            }
            return bindings;
        }

        // A BLOCK is never shared, so the first BINDING in it tells whose it is.
        int holderOf(int block) {
            for (int i = 0; i < BLOCK_SIZE; i++) {
                int host = hostOf(block * BLOCK_SIZE + i);
                if (host != NONE) {
                    return host;
                }
            }
            return NONE;
        }

        int blocksOf(int host) {
            int set = 0;
            for (int block = 0; block < BLOCKS; block++) {
                if (holderOf(block) == host) {
                    set |= 1 << block;
                }
            }
            return set;
        }

        int countFreeBlocks() {
            return Integer.bitCount(blocksOf(NONE));
        }

        void copyBindings(Bindings other) {
            System.arraycopy(other.inner, 0, inner, 0, OUTERS);
            System.arraycopy(other.is, 0, is, 0, OUTERS);
            System.arraycopy(other.used, 0, used, 0, OUTERS);
            System.arraycopy(other.onlyRemote, 0, onlyRemote, 0, OUTERS);
            System.arraycopy(other.onlyPort, 0, onlyPort, 0, OUTERS);
            System.arraycopy(other.sentBits, 0, sentBits, 0, OUTERS * REMOTES);
        }
    }

    /** The packets in PARTS: which are KNOWN, and which PARTS are HELD. */
    private static final class Packets {
        // For each packet the OUTER PORT of its BINDING; NONE: it is not KNOWN.
        final int[] knownBy = new int[PACKETS];
        final int[] knownSince = new int[PACKETS];
        // For each place 8 times the packet and the PART, added; NONE: nothing is HELD there.
        final int[] held = new int[HELD_MOST];
        final int[] heldSince = new int[HELD_MOST];

        Packets() {
            Arrays.fill(knownBy, NONE);
            Arrays.fill(held, NONE);
        }

        boolean isKnown(int packet) {
            return knownBy[packet] != NONE;
        }

        void know(int packet, int outer, int time) {
            knownBy[packet] = outer;
            knownSince[packet] = time;
        }

        void forget(int packet) {
            knownBy[packet] = NONE;
        }

        void forgetAllOf(int outer) {
            for (int packet = 0; packet < PACKETS; packet++) {
                if (knownBy[packet] == outer) {
                    forget(packet);
                }
            }
        }

        int hold(int packet, int part, int time) {
            int what = packet * PARTS + part;
            if (placeOf(what) != NONE) {
                return 0;
            }
            int place = placeOf(NONE);
            if (place == NONE) {
                return FULL;
            }
            held[place] = what;
            heldSince[place] = time;
            return 0;
        }

        int placeOf(int what) {
            for (int place = 0; place < HELD_MOST; place++) {
                if (held[place] == what) {
                    return place;
                }
            }
            return NONE;
        }

        int releaseHeld(int packet) {
            int released = 0;
            for (int place = 0; place < HELD_MOST; place++) {
                if (held[place] != NONE && held[place] / PARTS == packet) {
                    held[place] = NONE;
                    released++;
                }
            }
            return released;
        }

        void endOld(int time) {
            for (int packet = 0; packet < PACKETS; packet++) {
                if (isKnown(packet) && time - knownSince[packet] >= PACKET_TICKS) {
                    forget(packet);
                }
            }
            for (int place = 0; place < HELD_MOST; place++) {
                if (held[place] != NONE && time - heldSince[place] >= PACKET_TICKS) {
                    held[place] = NONE;
                }
            }
        }

        int countKnown() {
            int known = 0;
            for (int packet = 0; packet < PACKETS; packet++) {
                if (isKnown(packet)) {
                    known++;
                }
            }
            return known;
        }

        int countHeld() {
            int parts = 0;
            for (int place = 0; place < HELD_MOST; place++) {
                if (held[place] != NONE) {
                    parts++;
                }
            }
            return parts;
        }

        void copyPackets(Packets other) {
            System.arraycopy(other.knownBy, 0, knownBy, 0, PACKETS);
            System.arraycopy(other.knownSince, 0, knownSince, 0, PACKETS);
            System.arraycopy(other.held, 0, held, 0, HELD_MOST);
            System.arraycopy(other.heldSince, 0, heldSince, 0, HELD_MOST);
        }
    }
}
