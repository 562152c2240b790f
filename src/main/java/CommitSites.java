/**
 * One transaction over up to eight sites that commit it or abort it, all alike, in three phases.
 * Sites crash and come up again, links are slow or cut, and sites whose leader is gone decide
 * among themselves with quorums of votes.
 */
public final class CommitSites {
    public static final int NONE = -1;

    private static final int MOST_SITES = 8;
    private static final int MOST_WEIGHT = 9;
    private static final int CUT = 0;
    private static final int FIRST_DELAY = 1;
    private static final int LONGEST_DELAY = 20;
    private static final int LEAST_PATIENCE = 5;
    private static final int FIRST_PATIENCE = 10;
    private static final int MOST_PATIENCE = 100;
    private static final int LONGEST_RUN = 500;
    private static final int LAST_TIME = 4000;

    // Far above what can happen up to the last time.
    private static final int MOST_EVENTS = 1000000;

    // Above what 512 calls can bring on their way at once: 256 sites that come up ask seven others
    // each, and timers and answers within the longest delay add some hundreds.
    private static final int MOST_ON_WAY = 4096;

    // More than the longest delay, so that messages that share a slot come at the same time.
    private static final int SLOTS = 32;

    private static final int INITIAL = 0;
    private static final int WAITING = 1;
    private static final int PRECOMMIT = 2;
    private static final int PREABORT = 3;
    private static final int COMMITTED = 4;
    private static final int ABORTED = 5;

    private static final int NOTHING_ELSE = 0;
    private static final int COLLECTS_VOTES = 1;
    private static final int COLLECTS_ACKS_TO_COMMIT = 2;
    private static final int COLLECTS_STATES = 3;
    private static final int COLLECTS_ACKS_TO_ABORT = 4;

    private static final int NO_EVENT = 0;
    private static final int ASK_VOTE = 1;
    private static final int SAY_YES = 2;
    private static final int SAY_NO = 3;
    private static final int ASK_STATE = 4;
    private static final int TELL_STATE = 5;
    private static final int ASK_PRECOMMIT = 6;
    private static final int ASK_PREABORT = 7;
    private static final int ACKNOWLEDGE = 8;
    private static final int TELL_COMMIT = 9;
    private static final int TELL_ABORT = 10;
    private static final int TIMER = 11;

    private static final int NOTHING_DUE = 0;
    private static final int WAS_LOST = 1;
    private static final int WAS_HANDLED = 2;

    private static final int LATEST_FIELDS = 5;

    private final Site[] sites = new Site[MOST_SITES];
    private final Network network = new Network();
    // Kind, site, from which, attempt and state told, in the order in which they are asked for.
    private final int[] latestEvent = new int[LATEST_FIELDS];
    private int siteCount;
    private int allWeight;
    private int commitQuorum;
    private int abortQuorum;
    private int patienceTicks = FIRST_PATIENCE;
    private boolean begun;
    private int yesVotes;
    private int messagesCome;
    private int timersRunOut;

    public CommitSites() {
        shareQuorums();
        note(NO_EVENT, NONE, NONE, 0, 0);
    }

    public int site(int weight) {
        if (weight < 1 || weight > MOST_WEIGHT || begun || siteCount >= MOST_SITES) {
            return NONE;
        }
        sites[siteCount] = new Site(weight);
        allWeight += weight;
        shareQuorums();
        return siteCount++;
    }

    public int quorums(int commit, int abort) {
        boolean bothWithin = commit >= 1 && commit <= allWeight && abort >= 1 && abort <= allWeight;
        if (begun || !bothWithin || commit + abort <= allWeight) {
            return 0;
        }
        commitQuorum = commit;
        abortQuorum = abort;
        return 1;
    }

    public int link(int from, int to, int delay) {
        if (!isLink(from, to) || delay < CUT || delay > LONGEST_DELAY) {
            return 0;
        }
        network.delays[from][to] = delay;
        return 1;
    }

    public int part(int sites, int delay) {
        if (delay < 1 || delay > LONGEST_DELAY) {
            return NONE;
        }
        int changed = 0;
        for (int from = 0; from < siteCount; from++) {
            for (int to = 0; to < siteCount; to++) {
                if (from != to) {
                    boolean sameSide = hasBit(sites, from) == hasBit(sites, to);
                    network.delays[from][to] = sameSide ? delay : CUT;
                    changed++;
                }
            }
        }
        return changed;
    }

    public int patience(int ticks) {
        if (ticks < LEAST_PATIENCE || ticks > MOST_PATIENCE || begun) {
            return 0;
        }
        patienceTicks = ticks;
        return 1;
    }

    public int begin(int site, int votes) {
        if (!isSite(site) || !sites[site].up || begun) {
            return 0;
        }
        begun = true;
        yesVotes = votes;
        if (hasBit(votes, site)) {
            askVotes(site);
        } else {
            decide(site, ABORTED);
        }
        return 1;
    }

    public int crash(int site) {
        if (!isSite(site) || !sites[site].up) {
            return 0;
        }
        Site s = sites[site];
        s.up = false;
        s.does = NOTHING_ELSE;
        s.timer = NONE;
        return 1;
    }

    public int recover(int site) {
        if (!isSite(site) || sites[site].up) {
            return 0;
        }
        Site s = sites[site];
        s.up = true;
        if (begun && s.state == INITIAL) {
            become(s, ABORTED);
        } else if (begun && !s.isDecided()) {
            attempt(site);
        }
        return 1;
    }

    public int run(int ticks) {
        if (ticks < 0 || ticks > LONGEST_RUN || network.time + ticks > LAST_TIME) {
            return NONE;
        }
        int end = network.time + ticks;
        int handled = 0;
        for (int n = 0; n < MOST_EVENTS; n++) {
            int outcome = takeNext(end);
            if (outcome == NOTHING_DUE) {
                break;
            }
            if (outcome == WAS_HANDLED) {
                handled++;
            }
        }
        network.time = end;
        return handled;
    }

    public int step() {
        for (int n = 0; n < MOST_EVENTS; n++) {
            int outcome = takeNext(LAST_TIME);
            if (outcome == WAS_HANDLED) {
                return network.time;
            }
            if (outcome == NOTHING_DUE) {
                break;
            }
        }
        return NONE;
    }

    public int reset() {
        begun = false;
        yesVotes = 0;
        messagesCome = 0;
        timersRunOut = 0;
        note(NO_EVENT, NONE, NONE, 0, 0);
        network.startAnew();
        for (int i = 0; i < siteCount; i++) {
            sites[i].startAnew();
        }
        return 1;
    }

    public int of(int site, int what) {
        if (!isSite(site)) {
            return NONE;
        }
        Site s = sites[site];
        switch (what) {
            case 0:
                return s.state;
            case 1:
                return s.up ? 1 : 0;
            case 2:
                return s.does;
            case 3:
                return s.attempt;
            case 4:
                return s.weight;
            case 5:
                return s.timer;
            case 6:
                return s.since;
            default:
                return NONE;
        }
    }

    public int count(int what) {
        switch (what) {
            case 0:
                return network.time;
            case 1:
                return network.sent;
            case 2:
                return messagesCome;
            case 3:
                return network.lost;
            case 4:
                return timersRunOut;
            case 5:
                return siteCount;
            case 6:
                return commitQuorum;
            case 7:
                return abortQuorum;
            case 8:
                return patienceTicks;
            case 9:
                return network.onWay;
            default:
                return NONE;
        }
    }

    public int delay(int from, int to) {
        return isLink(from, to) ? network.delays[from][to] : NONE;
    }

    public int weight(int state) {
        int sum = 0;
        for (int i = 0; i < siteCount; i++) {
            if (sites[i].state == state) {
                sum += sites[i].weight;
            }
        }
        return sum;
    }

    public int latest(int what) {
        return what >= 0 && what < LATEST_FIELDS ? latestEvent[what] : NONE;
    }

    public int check() {
        boolean committed = false;
        boolean against = false;
        for (int i = 0; i < siteCount; i++) {
            boolean votedNo = begun && !hasBit(yesVotes, i);
            committed = committed || sites[i].state == COMMITTED;
            against = against || votedNo || sites[i].state == ABORTED;
        }
        return committed && against ? 0 : 1;
    }

    private boolean isSite(int site) {
        return site >= 0 && site < siteCount;
    }

    private boolean isLink(int from, int to) {
        return isSite(from) && isSite(to) && from != to;
    }

    private static boolean hasBit(int bits, int site) {
        return (bits >> site & 1) != 0;
    }

    private int everyone() {
        return (1 << siteCount) - 1;
    }

    private int allBut(int site) {
        return everyone() & ~(1 << site);
    }

    private void shareQuorums() {
        commitQuorum = allWeight / 2 + 1;
        abortQuorum = allWeight / 2 + 1;
    }

    private void note(int kind, int site, int from, int attempt, int told) {
        latestEvent[0] = kind;
        latestEvent[1] = site;
        latestEvent[2] = from;
        latestEvent[3] = attempt;
        latestEvent[4] = told;
    }

    /** Handles, or loses, the one thing that is to come first, if it comes up to the limit. */
    private int takeNext(int limit) {
        Message message = network.first();
        int timed = firstTimer();
        if (timed != NONE && sites[timed].runsOutBefore(message)) {
            if (sites[timed].timer > limit) {
                return NOTHING_DUE;
            }
            network.time = sites[timed].timer;
            sites[timed].timer = NONE;
            timersRunOut++;
            note(TIMER, timed, timed, 0, 0);
            runOut(timed);
            return WAS_HANDLED;
        }
        if (message == null || message.time > limit) {
            return NOTHING_DUE;
        }
        network.time = message.time;
        network.takeOff(message);
        boolean comes = sites[message.to].up;
        if (comes) {
            messagesCome++;
            note(message.kind, message.to, message.from, message.attempt, message.told);
            receive(message);
        } else {
            network.lost++;
        }
        // Not earlier: what is sent meanwhile must not be written over the message that is read.
        network.keepSpare(message);
        return comes ? WAS_HANDLED : WAS_LOST;
    }

    private int firstTimer() {
        int first = NONE;
        for (int i = 0; i < siteCount; i++) {
            if (sites[i].timer != NONE && (first == NONE || sites[i].runsOutEarlier(sites[first]))) {
                first = i;
            }
        }
        return first;
    }

    private void receive(Message m) {
        switch (m.kind) {
            case ASK_VOTE:
                onAskVote(m.to, m.from);
                break;
            case SAY_YES:
                onYes(m.to, m.from);
                break;
            case SAY_NO:
                onNo(m.to);
                break;
            case ASK_STATE:
                onAskState(m.to, m.from, m.attempt);
                break;
            case TELL_STATE:
                onState(m.to, m.from, m.attempt, m.told);
                break;
            case ASK_PRECOMMIT:
                onAskReady(m.to, m.from, m.attempt, PRECOMMIT);
                break;
            case ASK_PREABORT:
                onAskReady(m.to, m.from, m.attempt, PREABORT);
                break;
            case ACKNOWLEDGE:
                onAcknowledge(m.to, m.from, m.attempt);
                break;
            case TELL_COMMIT:
                onDecision(m.to, COMMITTED);
                break;
            case TELL_ABORT:
                onDecision(m.to, ABORTED);
                break;
            default:
                break;
        }
    }

    private void onAskVote(int i, int j) {
        Site s = sites[i];
        if (s.state != INITIAL) {
            return;
        }
        if (hasBit(yesVotes, i)) {
            become(s, WAITING);
            network.send(i, 1 << j, SAY_YES, 0, 0);
            setTimer(s, patienceTicks + i);
        } else {
            become(s, ABORTED);
            network.send(i, 1 << j, SAY_NO, 0, 0);
        }
    }

    private void onYes(int i, int j) {
        Site s = sites[i];
        if (s.does != COLLECTS_VOTES) {
            return;
        }
        s.there |= 1 << j;
        if (s.there == everyone()) {
            s.attempt++;
            lead(i, PRECOMMIT);
        }
    }

    private void onNo(int i) {
        if (sites[i].does == COLLECTS_VOTES) {
            decide(i, ABORTED);
        }
    }

    private void onAskState(int i, int j, int attempt) {
        Site s = sites[i];
        if (s.state == INITIAL) {
            become(s, ABORTED);
        }
        yieldTo(i, j);
        network.send(i, 1 << j, TELL_STATE, attempt, s.state);
    }

    private void onState(int i, int j, int attempt, int state) {
        Site s = sites[i];
        if (s.does != COLLECTS_STATES || s.attempt != attempt) {
            return;
        }
        if (state == COMMITTED || state == ABORTED) {
            decide(i, state);
        } else {
            s.there |= 1 << j;
            s.stateOf[j] = state;
        }
    }

    private void onAskReady(int i, int j, int attempt, int ready) {
        Site s = sites[i];
        if (s.isDecided()) {
            network.send(i, 1 << j, tidingsOf(s.state), 0, 0);
            return;
        }
        yieldTo(i, j);
        if (s.state == WAITING) {
            become(s, ready);
        }
        if (s.state == ready) {
            network.send(i, 1 << j, ACKNOWLEDGE, attempt, 0);
        }
    }

    private void onAcknowledge(int i, int j, int attempt) {
        Site s = sites[i];
        if (!s.collectsAcks() || s.attempt != attempt) {
            return;
        }
        s.there |= 1 << j;
        if (hasQuorum(s)) {
            decide(i, s.does == COLLECTS_ACKS_TO_COMMIT ? COMMITTED : ABORTED);
        }
    }

    private void onDecision(int i, int state) {
        Site s = sites[i];
        if (!s.isDecided()) {
            become(s, state);
            s.does = NOTHING_ELSE;
        }
    }

    private void runOut(int i) {
        Site s = sites[i];
        if (s.does == COLLECTS_VOTES) {
            decide(i, ABORTED);
        } else if (s.does != COLLECTS_STATES) {
            attempt(i);
        } else if (toldWeight(s, PRECOMMIT) > 0
                && toldWeight(s, WAITING) + toldWeight(s, PRECOMMIT) >= commitQuorum) {
            lead(i, PRECOMMIT);
        } else if (toldWeight(s, WAITING) + toldWeight(s, PREABORT) >= abortQuorum) {
            lead(i, PREABORT);
        } else {
            s.does = NOTHING_ELSE;
            setTimer(s, patienceTicks + i);
        }
    }

    private void askVotes(int i) {
        Site s = sites[i];
        become(s, WAITING);
        s.does = COLLECTS_VOTES;
        s.there = 1 << i;
        network.send(i, allBut(i), ASK_VOTE, 0, 0);
        setTimer(s, patienceTicks);
        if (s.there == everyone()) {
            s.attempt++;
            lead(i, PRECOMMIT);
        }
    }

    private void attempt(int i) {
        Site s = sites[i];
        s.attempt++;
        s.does = COLLECTS_STATES;
        s.there = 1 << i;
        s.stateOf[i] = s.state;
        network.send(i, allBut(i), ASK_STATE, s.attempt, 0);
        setTimer(s, patienceTicks);
    }

    /** Leads to commit when the sites are to be ready for that (PRECOMMIT), else to abort. */
    private void lead(int i, int ready) {
        Site s = sites[i];
        boolean toCommit = ready == PRECOMMIT;
        if (s.state == WAITING) {
            become(s, ready);
        }
        s.does = toCommit ? COLLECTS_ACKS_TO_COMMIT : COLLECTS_ACKS_TO_ABORT;
        s.there = s.state == ready ? 1 << i : 0;
        network.send(i, allBut(i), toCommit ? ASK_PRECOMMIT : ASK_PREABORT, s.attempt, 0);
        setTimer(s, patienceTicks);
        if (hasQuorum(s)) {
            decide(i, toCommit ? COMMITTED : ABORTED);
        }
    }

    private void decide(int i, int state) {
        Site s = sites[i];
        become(s, state);
        s.does = NOTHING_ELSE;
        network.send(i, allBut(i), tidingsOf(state), 0, 0);
    }

    private static int tidingsOf(int decidedState) {
        return decidedState == COMMITTED ? TELL_COMMIT : TELL_ABORT;
    }

    private void yieldTo(int i, int j) {
        Site s = sites[i];
        boolean leadsOn = s.does >= COLLECTS_ACKS_TO_COMMIT && j > i;
        if (s.isDecided() || s.does == COLLECTS_VOTES || leadsOn) {
            return;
        }
        s.does = NOTHING_ELSE;
        setTimer(s, patienceTicks + i);
    }

    private void become(Site s, int state) {
        if (s.state != state) {
            s.state = state;
            s.since = network.time;
        }
        if (s.isDecided()) {
            s.timer = NONE;
        }
    }

    private void setTimer(Site s, int ticks) {
        s.timer = network.time + ticks;
        s.timerOrder = network.nextOrder();
    }

    private boolean hasQuorum(Site s) {
        int sum = 0;
        for (int i = 0; i < siteCount; i++) {
            if (hasBit(s.there, i)) {
                sum += sites[i].weight;
            }
        }
        return sum >= (s.does == COLLECTS_ACKS_TO_COMMIT ? commitQuorum : abortQuorum);
    }

    private int toldWeight(Site s, int state) {
        int sum = 0;
        for (int i = 0; i < siteCount; i++) {
            if (hasBit(s.there, i) && s.stateOf[i] == state) {
                sum += sites[i].weight;
            }
        }
        return sum;
    }

    private static final class Site {
        final int weight;
        // The states that are there, while it collects them.
        final int[] stateOf = new int[MOST_SITES];
        // By bits, whose votes, acknowledgements or states are there.
        int there;
        boolean up;
        int state;
        int since;
        int does;
        int attempt;
        int timer;
        int timerOrder;

        Site(int weight) {
            this.weight = weight;
            startAnew();
        }

        void startAnew() {
            there = 0;
            up = true;
            state = INITIAL;
            since = 0;
            does = NOTHING_ELSE;
            attempt = 0;
            timer = NONE;
            timerOrder = 0;
        }

        boolean isDecided() {
            return state == COMMITTED || state == ABORTED;
        }

        boolean collectsAcks() {
            return does == COLLECTS_ACKS_TO_COMMIT || does == COLLECTS_ACKS_TO_ABORT;
        }

        boolean runsOutEarlier(Site other) {
            return timer < other.timer || timer == other.timer && timerOrder < other.timerOrder;
        }

        boolean runsOutBefore(Message message) {
            return message == null || timer < message.time
                    || timer == message.time && timerOrder < message.order;
        }
    }

    private static final class Message {
        int time;
        int order;
        int kind;
        int from;
        int to;
        int attempt;
        int told;
        Message next;
    }

    /** Time, the links, and what is on its way: a chain of messages for each time to come. */
    private static final class Network {
        final int[][] delays = new int[MOST_SITES][MOST_SITES];
        final Message[] heads = new Message[SLOTS];
        final Message[] tails = new Message[SLOTS];
        // Messages that came are used again, so that a long run makes few.
        Message spare;
        int time;
        int order;
        int sent;
        int lost;
        int onWay;

        Network() {
            for (int from = 0; from < MOST_SITES; from++) {
                for (int to = 0; to < MOST_SITES; to++) {
                    delays[from][to] = FIRST_DELAY;
                }
            }
        }

        void startAnew() {
            for (int slot = 0; slot < SLOTS; slot++) {
                if (tails[slot] != null) {
                    tails[slot].next = spare;
                    spare = heads[slot];
                }
                heads[slot] = null;
                tails[slot] = null;
            }
            time = 0;
            order = 0;
            sent = 0;
            lost = 0;
            onWay = 0;
        }

        int nextOrder() {
            return order++;
        }

        /** Sends to the sites that are told by bits, in the order of their numbers. */
        void send(int from, int receivers, int kind, int attempt, int told) {
            for (int to = 0; to < MOST_SITES; to++) {
                if (!hasBit(receivers, to)) {
                    continue;
                }
                sent++;
                if (delays[from][to] == CUT || onWay >= MOST_ON_WAY) {
                    lost++;
                    continue;
                }
                Message m = spare;
                if (m == null) {
                    m = new Message();
                } else {
                    spare = m.next;
                }
                m.kind = kind;
                m.from = from;
                m.to = to;
                m.attempt = attempt;
                m.told = told;
                putOn(m);
            }
        }

        void putOn(Message m) {
            m.time = time + delays[m.from][m.to];
            m.order = order++;
            m.next = null;
            int slot = m.time % SLOTS;
            if (tails[slot] == null) {
                heads[slot] = m;
            } else {
                tails[slot].next = m;
            }
            tails[slot] = m;
            onWay++;
        }

        Message first() {
            if (onWay == 0) {
                return null;
            }
            for (int t = time; t <= time + LONGEST_DELAY; t++) {
                if (heads[t % SLOTS] != null) {
                    return heads[t % SLOTS];
                }
            }
            return null;
        }

        /** Takes off the message that is the first of its time. */
        void takeOff(Message m) {
            int slot = m.time % SLOTS;
            heads[slot] = m.next;
            if (m.next == null) {
                tails[slot] = null;
            }
            onWay--;
        }

        void keepSpare(Message m) {
            m.next = spare;
            spare = m;
        }
    }
}
