import java.util.ArrayList;
import java.util.Arrays;
import java.util.List;
import java.util.Map;
import java.util.TreeMap;

/**
 * The document a second time, in its plainest form: one list of all that is to come, searched anew each time.
 * It shares nothing with the program, so that slips of either are seen where they differ.
 */
final class Model {
    private enum Kind {
        NOTHING, VOTE, YES, NO, STATES, STATE, PRECOMMIT, PREABORT, ACK, COMMIT, ABORT, TIMER
    }

    private static final class Event {
        Kind kind;
        int time;
        int site;
        int from;
        int attempt;
        int told;
    }

    private static final class Node {
        int weight;
        int state;
        int since;
        int does;
        int attempt;
        boolean up = true;
        Event timer;
        Map<Integer, Integer> there = new TreeMap<>();

        boolean decided() {
            return state > 3;
        }
    }

    private final List<Node> nodes = new ArrayList<>();
    /** In the order in which they were sent or set. */
    private List<Event> coming = new ArrayList<>();
    private final int[][] delays = new int[8][8];
    private int commitQuorum = 1;
    private int abortQuorum = 1;
    private int patience = 10;
    private boolean begun;
    private int votes;
    private int time;
    private int sent;
    private int came;
    private int lost;
    private int ranOut;
    private Event latest;
    /** How often a message or timer of each kind met a site in each state that did each thing. */
    final int[][][] met = new int[12][6][5];

    Model() {
        for (int[] row : delays) {
            Arrays.fill(row, 1);
        }
    }

    int answer(String method, List<Integer> args) {
        int a = args.size() > 0 ? args.get(0) : 0;
        int b = args.size() > 1 ? args.get(1) : 0;
        int c = args.size() > 2 ? args.get(2) : 0;
        return switch (method) {
            case "site" -> site(a);
            case "quorums" -> quorums(a, b);
            case "link" -> link(a, b, c);
            case "part" -> part(a, b);
            case "patience" -> patience(a);
            case "begin" -> begin(a, b);
            case "crash" -> crash(a);
            case "recover" -> recover(a);
            case "run" -> run(a);
            case "step" -> step();
            case "reset" -> reset();
            case "of" -> of(a, b);
            case "count" -> count(a);
            case "delay" -> within(a) && within(b) && a != b ? delays[a][b] : -1;
            case "weight" -> nodes.stream().filter(n -> n.state == a).mapToInt(n -> n.weight).sum();
            case "latest" -> latest(a);
            case "check" -> check();
            default -> throw new IllegalArgumentException("no method " + method);
        };
    }

    private boolean within(int i) {
        return 0 <= i && i < nodes.size();
    }

    private int allWeight() {
        return nodes.stream().mapToInt(n -> n.weight).sum();
    }

    private int site(int weight) {
        if (weight < 1 || weight > 9 || begun || nodes.size() == 8) {
            return -1;
        }
        Node n = new Node();
        n.weight = weight;
        nodes.add(n);
        commitQuorum = allWeight() / 2 + 1;
        abortQuorum = commitQuorum;
        return nodes.size() - 1;
    }

    private int quorums(int commit, int abort) {
        int v = allWeight();
        if (commit < 1 || commit > v || abort < 1 || abort > v || commit + abort <= v || begun) {
            return 0;
        }
        commitQuorum = commit;
        abortQuorum = abort;
        return 1;
    }

    private int link(int from, int to, int delay) {
        if (!within(from) || !within(to) || from == to || delay < 0 || delay > 20) {
            return 0;
        }
        delays[from][to] = delay;
        return 1;
    }

    private int part(int sites, int delay) {
        if (delay < 1 || delay > 20) {
            return -1;
        }
        for (int i = 0; i < nodes.size(); i++) {
            for (int j = 0; j < nodes.size(); j++) {
                boolean iIn = (sites & 1 << i) != 0;
                boolean jIn = (sites & 1 << j) != 0;
                delays[i][j] = i == j ? delays[i][j] : iIn == jIn ? delay : 0;
            }
        }
        return nodes.size() * Math.max(0, nodes.size() - 1);
    }

    private int patience(int ticks) {
        if (ticks < 5 || ticks > 100 || begun) {
            return 0;
        }
        patience = ticks;
        return 1;
    }

    private int begin(int c, int told) {
        if (!within(c) || !nodes.get(c).up || begun) {
            return 0;
        }
        begun = true;
        votes = told;
        Node n = nodes.get(c);
        if ((votes & 1 << c) == 0) {
            become(n, 5);
            toAll(c, Kind.ABORT, 0);
            return 1;
        }
        become(n, 1);
        n.does = 1;
        n.there.clear();
        n.there.put(c, 1);
        toAll(c, Kind.VOTE, 0);
        set(c, patience);
        if (nodes.size() == 1) {
            n.attempt++;
            leadTo(c, 2);
        }
        return 1;
    }

    private int crash(int i) {
        if (!within(i) || !nodes.get(i).up) {
            return 0;
        }
        Node n = nodes.get(i);
        n.up = false;
        n.does = 0;
        off(n);
        return 1;
    }

    private int recover(int i) {
        if (!within(i) || nodes.get(i).up) {
            return 0;
        }
        Node n = nodes.get(i);
        n.up = true;
        if (begun && n.state == 0) {
            become(n, 5);
        } else if (begun && n.state < 4) {
            attempt(i);
        }
        return 1;
    }

    private int run(int ticks) {
        if (ticks < 0 || ticks > 500 || time + ticks > 4000) {
            return -1;
        }
        int end = time + ticks;
        int before = came + ranOut;
        while (next(end) != null) {
            handle(next(end));
        }
        time = end;
        return came + ranOut - before;
    }

    private int step() {
        int before = came + ranOut;
        while (next(4000) != null) {
            handle(next(4000));
            if (came + ranOut > before) {
                return time;
            }
        }
        return -1;
    }

    private int reset() {
        begun = false;
        votes = 0;
        coming = new ArrayList<>();
        time = 0;
        sent = 0;
        came = 0;
        lost = 0;
        ranOut = 0;
        latest = null;
        for (Node n : nodes) {
            n.state = 0;
            n.since = 0;
            n.does = 0;
            n.attempt = 0;
            n.up = true;
            n.timer = null;
            n.there.clear();
        }
        return 1;
    }

    private int of(int i, int what) {
        if (!within(i) || what < 0 || what > 6) {
            return -1;
        }
        Node n = nodes.get(i);
        int timer = n.timer == null ? -1 : n.timer.time;
        return new int[] {n.state, n.up ? 1 : 0, n.does, n.attempt, n.weight, timer, n.since}[what];
    }

    private int count(int what) {
        if (what < 0 || what > 9) {
            return -1;
        }
        int onWay = (int) coming.stream().filter(e -> e.kind != Kind.TIMER).count();
        return new int[] {time, sent, came, lost, ranOut, nodes.size(), commitQuorum, abortQuorum, patience,
            onWay}[what];
    }

    private int latest(int what) {
        if (what < 0 || what > 4) {
            return -1;
        }
        if (latest == null) {
            return what == 1 || what == 2 ? -1 : 0;
        }
        return new int[] {latest.kind.ordinal(), latest.site, latest.from, latest.attempt, latest.told}[what];
    }

    private int check() {
        boolean committed = nodes.stream().anyMatch(n -> n.state == 4);
        boolean aborted = nodes.stream().anyMatch(n -> n.state == 5);
        boolean allYes = (votes & (1 << nodes.size()) - 1) == (1 << nodes.size()) - 1;
        return committed && (aborted || !allYes) ? 0 : 1;
    }

    private Event next(int limit) {
        Event first = null;
        for (Event e : coming) {
            if (e.time <= limit && (first == null || e.time < first.time)) {
                first = e;
            }
        }
        return first;
    }

    private void handle(Event e) {
        coming.remove(e);
        time = e.time;
        Node n = nodes.get(e.site);
        if (!n.up) {
            lost++;
            return;
        }
        latest = e;
        met[e.kind.ordinal()][n.state][n.does]++;
        if (e.kind == Kind.TIMER) {
            ranOut++;
            n.timer = null;
            timer(e.site, n);
        } else {
            came++;
            message(e, e.site, n);
        }
    }

    private void message(Event e, int i, Node n) {
        int j = e.from;
        switch (e.kind) {
            case VOTE -> {
                if (n.state == 0 && (votes & 1 << i) != 0) {
                    become(n, 1);
                    send(i, j, Kind.YES, 0, 0);
                    set(i, patience + i);
                } else if (n.state == 0) {
                    become(n, 5);
                    send(i, j, Kind.NO, 0, 0);
                }
            }
            case YES -> {
                if (n.does == 1) {
                    n.there.put(j, 1);
                    if (n.there.size() == nodes.size()) {
                        n.attempt++;
                        leadTo(i, 2);
                    }
                }
            }
            case NO -> {
                if (n.does == 1) {
                    decide(i, 5);
                }
            }
            case STATES -> {
                if (n.state == 0) {
                    become(n, 5);
                }
                yieldTo(i, j);
                send(i, j, Kind.STATE, e.attempt, n.state);
            }
            case STATE -> {
                if (n.does == 3 && n.attempt == e.attempt) {
                    if (e.told > 3) {
                        decide(i, e.told);
                    } else {
                        n.there.put(j, e.told);
                    }
                }
            }
            case PRECOMMIT -> ready(e, i, n, 2);
            case PREABORT -> ready(e, i, n, 3);
            case ACK -> {
                if ((n.does == 2 || n.does == 4) && n.attempt == e.attempt) {
                    n.there.put(j, 1);
                    decideWithQuorum(i);
                }
            }
            case COMMIT -> told(n, 4);
            case ABORT -> told(n, 5);
            default -> throw new IllegalStateException();
        }
    }

    private void ready(Event e, int i, Node n, int state) {
        if (n.decided()) {
            send(i, e.from, n.state == 4 ? Kind.COMMIT : Kind.ABORT, 0, 0);
            return;
        }
        yieldTo(i, e.from);
        if (n.state == 1) {
            become(n, state);
        }
        if (n.state == state) {
            send(i, e.from, Kind.ACK, e.attempt, 0);
        }
    }

    private void told(Node n, int state) {
        if (!n.decided()) {
            become(n, state);
            n.does = 0;
        }
    }

    private void timer(int i, Node n) {
        switch (n.does) {
            case 1 -> decide(i, 5);
            case 0, 2, 4 -> attempt(i);
            default -> {
                if (n.there.containsValue(2) && toldWeight(n, 1) + toldWeight(n, 2) >= commitQuorum) {
                    leadTo(i, 2);
                } else if (toldWeight(n, 1) + toldWeight(n, 3) >= abortQuorum) {
                    leadTo(i, 3);
                } else {
                    n.does = 0;
                    set(i, patience + i);
                }
            }
        }
    }

    private int toldWeight(Node n, int state) {
        int sum = 0;
        for (Map.Entry<Integer, Integer> one : n.there.entrySet()) {
            sum += one.getValue() == state ? nodes.get(one.getKey()).weight : 0;
        }
        return sum;
    }

    private void attempt(int i) {
        Node n = nodes.get(i);
        n.attempt++;
        n.does = 3;
        n.there.clear();
        n.there.put(i, n.state);
        toAll(i, Kind.STATES, n.attempt);
        set(i, patience);
    }

    private void leadTo(int i, int state) {
        Node n = nodes.get(i);
        if (n.state == 1) {
            become(n, state);
        }
        n.does = state == 2 ? 2 : 4;
        n.there.clear();
        if (n.state == state) {
            n.there.put(i, 1);
        }
        toAll(i, state == 2 ? Kind.PRECOMMIT : Kind.PREABORT, n.attempt);
        set(i, patience);
        decideWithQuorum(i);
    }

    private void decideWithQuorum(int i) {
        Node n = nodes.get(i);
        int weight = n.there.keySet().stream().mapToInt(k -> nodes.get(k).weight).sum();
        if (n.does == 2 && weight >= commitQuorum) {
            decide(i, 4);
        } else if (n.does == 4 && weight >= abortQuorum) {
            decide(i, 5);
        }
    }

    private void decide(int i, int state) {
        become(nodes.get(i), state);
        nodes.get(i).does = 0;
        toAll(i, state == 4 ? Kind.COMMIT : Kind.ABORT, 0);
    }

    private void yieldTo(int i, int j) {
        Node n = nodes.get(i);
        if (!n.decided() && n.does != 1 && (n.does == 0 || j < i)) {
            n.does = 0;
            set(i, patience + i);
        }
    }

    private void become(Node n, int state) {
        n.since = n.state == state ? n.since : time;
        n.state = state;
        if (n.decided()) {
            off(n);
        }
    }

    private void off(Node n) {
        coming.remove(n.timer);
        n.timer = null;
    }

    private void set(int i, int ticks) {
        Node n = nodes.get(i);
        off(n);
        n.timer = event(Kind.TIMER, i, i, ticks, 0, 0);
    }

    private void toAll(int i, Kind kind, int attempt) {
        for (int j = 0; j < nodes.size(); j++) {
            if (j != i) {
                send(i, j, kind, attempt, 0);
            }
        }
    }

    private void send(int from, int to, Kind kind, int attempt, int told) {
        sent++;
        if (delays[from][to] == 0) {
            lost++;
        } else {
            event(kind, to, from, delays[from][to], attempt, told);
        }
    }

    private Event event(Kind kind, int site, int from, int ticks, int attempt, int told) {
        Event e = new Event();
        e.kind = kind;
        e.time = time + ticks;
        e.site = site;
        e.from = from;
        e.attempt = attempt;
        e.told = told;
        coming.add(e);
        return e;
    }
}
