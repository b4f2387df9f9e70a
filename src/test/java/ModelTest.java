import java.util.ArrayList;
import java.util.Arrays;
import java.util.HashMap;
import java.util.HashSet;
import java.util.List;
import java.util.Map;
import java.util.Random;
import java.util.Set;
import java.util.TreeSet;

/** Seeded runs of calls, each answer compared with that of a plain model that follows the document's words. */
public final class ModelTest {
    private static final int UNKNOWN = -1, OUTSIDE = -2, STATE = -3, FULL = -4, NO = -5, NONE = -6;
    private static final int RUNS = 3000, CALLS = 512;

    private static final class Loan {
        int host, port, outer, is, used, remote = NONE, remotePort = NONE;
        final Set<Integer> sent = new HashSet<>();

        Loan copy() {
            Loan c = new Loan();
            c.host = host;
            c.port = port;
            c.outer = outer;
            c.is = is;
            c.used = used;
            c.remote = remote;
            c.remotePort = remotePort;
            c.sent.addAll(sent);
            return c;
        }
    }

    private record Known(Loan loan, int since) {
    }

    private record Part(int remote, int name, int number) {
    }

    private static final class World {
        final int[] rules = {0, 0, 0, 4, 20, 2};
        int time;
        final List<Loan> loans = new ArrayList<>();
        final Map<List<Integer>, Known> known = new HashMap<>();
        final Map<Part, Integer> held = new HashMap<>();

        World copy() {
            World w = new World();
            System.arraycopy(rules, 0, w.rules, 0, 6);
            w.time = time;
            Map<Loan, Loan> twins = new HashMap<>();
            for (Loan l : loans) {
                Loan c = l.copy();
                twins.put(l, c);
                w.loans.add(c);
            }
            known.forEach((k, v) -> w.known.put(k, new Known(twins.get(v.loan()), v.since())));
            w.held.putAll(held);
            return w;
        }

        /** Takes away all that is there no more. */
        int settle() {
            int before = loans.size();
            loans.removeIf(l -> time >= l.used + rules[3 + l.is]);
            int lapsed = before - loans.size();
            known.values().removeIf(k -> !loans.contains(k.loan()) || time >= k.since() + 5);
            held.values().removeIf(since -> time >= since + 5);
            return lapsed;
        }

        Loan at(int outer) {
            for (Loan l : loans) {
                if (l.outer == outer) {
                    return l;
                }
            }
            return null;
        }

        Loan loanFor(int host, int port, int remote, int remotePort) {
            for (Loan l : loans) {
                if (l.host != host || l.port != port) {
                    continue;
                }
                if (rules[0] == 0 || l.remote == remote && (rules[0] == 1 || l.remotePort == remotePort)) {
                    return l;
                }
            }
            return null;
        }

        int ownerOf(int block) {
            for (Loan l : loans) {
                if (l.outer / 4 == block) {
                    return l.host;
                }
            }
            return NONE;
        }

        int chosen(int host, int port) {
            int like = port % 16;
            TreeSet<Integer> fit = new TreeSet<>();
            for (int o = 0; o < 16; o++) {
                if (at(o) == null && !(rules[2] == 1 && (o + port) % 2 == 1)) {
                    fit.add(o);
                }
            }
            TreeSet<Integer> own = new TreeSet<>(fit);
            own.removeIf(o -> ownerOf(o / 4) != host);
            if (!own.isEmpty()) {
                return own.contains(like) ? like : own.first();
            }
            TreeSet<Integer> free = new TreeSet<>();
            for (int b = 0; b < 4; b++) {
                if (ownerOf(b) == NONE) {
                    free.add(b);
                }
            }
            if (free.isEmpty()) {
                return NONE;
            }
            int block = free.contains(like / 4) ? like / 4 : free.first();
            if (like / 4 == block) {
                return like;
            }
            fit.removeIf(o -> o / 4 != block);
            return fit.isEmpty() ? NONE : fit.first();
        }

        int out(int host, int port, int remote, int remotePort, int flag) {
            Loan l = loanFor(host, port, remote, remotePort);
            if (l == null) {
                int outer = chosen(host, port);
                if (outer == NONE) {
                    return NO;
                }
                l = new Loan();
                l.host = host;
                l.port = port;
                l.outer = outer;
                l.remote = rules[0] == 0 ? NONE : remote;
                l.remotePort = rules[0] == 2 ? remotePort : NONE;
                loans.add(l);
            }
            l.sent.add(remote * 100 + remotePort);
            l.used = time;
            if (flag == 2) {
                l.is = 2;
            }
            if (flag == 1 && l.is == 2) {
                l.is = 0;
            }
            return l.outer;
        }

        int why(int remote, int remotePort, int outer) {
            Loan l = at(outer);
            if (l == null) {
                return 1;
            }
            boolean port = l.sent.contains(remote * 100 + remotePort);
            boolean any = l.sent.stream().anyMatch(s -> s / 100 == remote);
            return rules[1] == 1 && !any || rules[1] == 2 && !port ? 2 : 0;
        }

        int in(int remote, int remotePort, int outer, int flag) {
            if (why(remote, remotePort, outer) != 0) {
                return NONE;
            }
            Loan l = at(outer);
            l.used = time;
            l.is = flag == 2 ? 2 : l.is == 0 ? 1 : l.is;
            return 32 * l.host + l.port;
        }

        int part(int remote, int name, int part, int remotePort, int outer) {
            List<Integer> packet = List.of(remote, name);
            if (part != 0) {
                if (known.containsKey(packet)) {
                    return 1;
                }
                Part p = new Part(remote, name, part);
                if (!held.containsKey(p) && held.size() == 6) {
                    return FULL;
                }
                held.putIfAbsent(p, time);
                return 0;
            }
            boolean letIn = in(remote, remotePort, outer, 0) != NONE;
            int before = held.size();
            held.keySet().removeIf(p -> p.remote() == remote && p.name() == name);
            known.remove(packet);
            if (!letIn) {
                return NONE;
            }
            known.put(packet, new Known(at(outer), time));
            return 1 + before - held.size();
        }

        /** Makes BINDINGS of ports of one kind until none can be made, and counts them. */
        int more(int host, int odd) {
            World w = copy();
            int made = 0;
            for (int port = odd; port < 32; port += 2) {
                for (int remote = 0; remote < 4; remote++) {
                    for (int remotePort = 0; remotePort < 32; remotePort++) {
                        boolean there = w.loanFor(host, port, remote, remotePort) != null;
                        if (!there && w.out(host, port, remote, remotePort, 0) == NO) {
                            return made;
                        }
                        made += there ? 0 : 1;
                    }
                }
            }
            return made;
        }
    }

    private static final class Model {
        World w = new World();
        final World[] images = new World[2];

        private static boolean not(int n, int least, int most) {
            return n < least || n > most;
        }

        private static boolean notRemote(int remote, int port) {
            return not(remote, 0, 4) || not(port, 0, remote == 4 ? 15 : 31);
        }

        int call(String name, int[] a) {
            int answer = answer(name, a);
            if (!name.equals("tick")) {
                w.settle();
            }
            return answer;
        }

        private int answer(String name, int[] a) {
            return switch (name) {
                case "rule" -> rule(a[0], a[1]);
                case "out" -> not(a[0], 0, 3) ? UNKNOWN
                    : not(a[1], 0, 31) || notRemote(a[2], a[3]) || not(a[4], 0, 2) ? OUTSIDE
                    : w.out(a[0], a[1], a[2], a[3], a[4]);
                case "in" -> notRemote(a[0], a[1]) ? OUTSIDE : not(a[2], 0, 15) ? UNKNOWN
                    : not(a[3], 0, 2) ? OUTSIDE : w.in(a[0], a[1], a[2], a[3]);
                case "turn" -> turn(a[0], a[1], a[2], a[3]);
                case "part" -> not(a[0], 0, 3) || not(a[1], 0, 7) || not(a[2], 0, 7) ? OUTSIDE
                    : a[2] == 0 && not(a[3], 0, 31) ? OUTSIDE
                    : a[2] == 0 && not(a[4], 0, 15) ? UNKNOWN : w.part(a[0], a[1], a[2], a[3], a[4]);
                case "tick" -> tick(a[0]);
                case "drop" -> drop(a[0]);
                case "of" -> of(a[0], a[1]);
                case "sent" -> not(a[0], 0, 15) ? UNKNOWN : notRemote(a[1], a[2]) ? OUTSIDE
                    : w.at(a[0]) == null ? NONE : w.at(a[0]).sent.contains(a[1] * 100 + a[2]) ? 1 : 0;
                case "find" -> find(a[0], a[1], a[2], a[3]);
                case "next" -> not(a[0], 0, 3) ? UNKNOWN : not(a[1], 0, 31) ? OUTSIDE : w.chosen(a[0], a[1]);
                case "why" -> notRemote(a[0], a[1]) ? OUTSIDE : not(a[2], 0, 15) ? UNKNOWN : w.why(a[0], a[1], a[2]);
                case "block" -> not(a[0], 0, 3) ? UNKNOWN : w.ownerOf(a[0]);
                case "host" -> host(a[0], a[1]);
                case "soon" -> w.loans.stream().mapToInt(l -> l.used + w.rules[3 + l.is] - w.time).min().orElse(NONE);
                case "image" -> image(a[0]);
                case "restore" -> restore(a[0]);
                default -> count(a[0]);
            };
        }

        private int rule(int what, int v) {
            if (not(what, 0, 5) || what < 2 && not(v, 0, 2) || what == 2 && not(v, 0, 1) || what > 2 && not(v, 1, 60)) {
                return OUTSIDE;
            }
            int was = w.rules[what];
            w.rules[what] = v;
            if (what == 0 && was != v) {
                w.loans.clear();
            }
            return was;
        }

        private int turn(int host, int port, int outer, int flag) {
            if (not(host, 0, 3)) {
                return UNKNOWN;
            }
            if (not(port, 0, 31)) {
                return OUTSIDE;
            }
            if (not(outer, 0, 15)) {
                return UNKNOWN;
            }
            if (not(flag, 0, 2)) {
                return OUTSIDE;
            }
            int through = w.out(host, port, 4, outer, flag);
            return through < 0 ? through : w.in(4, through, outer, flag);
        }

        private int tick(int n) {
            if (not(n, 1, 100)) {
                return OUTSIDE;
            }
            int lapsed = 0;
            for (int i = 0; i < n; i++) {
                w.time++;
                lapsed += w.settle();
            }
            return lapsed;
        }

        private int drop(int host) {
            int before = w.loans.size();
            w.loans.removeIf(l -> l.host == host);
            return not(host, 0, 3) ? UNKNOWN : before - w.loans.size();
        }

        private int of(int outer, int what) {
            if (not(outer, 0, 15)) {
                return UNKNOWN;
            }
            if (not(what, 0, 5)) {
                return OUTSIDE;
            }
            Loan l = w.at(outer);
            if (l == null) {
                return NONE;
            }
            int left = l.used + w.rules[3 + l.is] - w.time;
            return new int[] {32 * l.host + l.port, l.is, left, l.sent.size(), l.remote, l.remotePort}[what];
        }

        private int find(int host, int port, int remote, int remotePort) {
            if (not(host, 0, 3)) {
                return UNKNOWN;
            }
            if (not(port, 0, 31) || notRemote(remote, remotePort)) {
                return OUTSIDE;
            }
            Loan l = w.loanFor(host, port, remote, remotePort);
            return l == null ? NONE : l.outer;
        }

        private int host(int host, int what) {
            if (not(host, 0, 3)) {
                return UNKNOWN;
            }
            if (not(what, 0, 3)) {
                return OUTSIDE;
            }
            if (what == 0) {
                return (int) w.loans.stream().filter(l -> l.host == host).count();
            }
            if (what > 1) {
                return w.more(host, what - 2);
            }
            int set = 0;
            for (int b = 0; b < 4; b++) {
                set += w.ownerOf(b) == host ? 1 << b : 0;
            }
            return set;
        }

        private int image(int k) {
            if (not(k, 0, 1)) {
                return OUTSIDE;
            }
            images[k] = w.copy();
            return 1;
        }

        private int restore(int k) {
            if (not(k, 0, 1)) {
                return OUTSIDE;
            }
            if (images[k] == null) {
                return STATE;
            }
            w = images[k].copy();
            return 1;
        }

        private int count(int what) {
            if (not(what, 0, 5) && not(what, 10, 15)) {
                return OUTSIDE;
            }
            if (what >= 10) {
                return w.rules[what - 10];
            }
            int free = 0;
            for (int b = 0; b < 4; b++) {
                free += w.ownerOf(b) == NONE ? 1 : 0;
            }
            int kept = (images[0] == null ? 0 : 1) + (images[1] == null ? 0 : 2);
            return new int[] {w.loans.size(), w.time, free, w.held.size(), w.known.size(), kept}[what];
        }
    }

    private static int call(BoxBindings x, String name, int[] a) {
        return switch (name) {
            case "rule" -> x.rule(a[0], a[1]);
            case "out" -> x.out(a[0], a[1], a[2], a[3], a[4]);
            case "in" -> x.in(a[0], a[1], a[2], a[3]);
            case "turn" -> x.turn(a[0], a[1], a[2], a[3]);
            case "part" -> x.part(a[0], a[1], a[2], a[3], a[4]);
            case "tick" -> x.tick(a[0]);
            case "drop" -> x.drop(a[0]);
            case "of" -> x.of(a[0], a[1]);
            case "sent" -> x.sent(a[0], a[1], a[2]);
            case "find" -> x.find(a[0], a[1], a[2], a[3]);
            case "next" -> x.next(a[0], a[1]);
            case "why" -> x.why(a[0], a[1], a[2]);
            case "block" -> x.block(a[0]);
            case "host" -> x.host(a[0], a[1]);
            case "soon" -> x.soon();
            case "image" -> x.image(a[0]);
            case "restore" -> x.restore(a[0]);
            default -> x.count(a[0]);
        };
    }

    // How often each call comes; those that change much come seldom, so that much can build up.
    private static final String[] NAMES = {"rule", "out", "in", "turn", "part", "tick", "drop", "of", "sent", "find",
        "next", "why", "block", "host", "soon", "image", "restore", "count"};
    private static final int[] WEIGHTS = {3, 24, 10, 7, 14, 5, 1, 10, 5, 4, 5, 4, 3, 3, 3, 1, 1, 8};
    // Of each call the bounds of its numbers, which go from 0 on.
    private static final Map<String, int[]> BOUNDS = Map.ofEntries(
        Map.entry("rule", new int[] {6, 61}), Map.entry("out", new int[] {4, 32, 5, 32, 3}),
        Map.entry("in", new int[] {5, 32, 16, 3}), Map.entry("turn", new int[] {4, 32, 16, 3}),
        Map.entry("part", new int[] {4, 8, 8, 32, 16}), Map.entry("tick", new int[] {101}),
        Map.entry("drop", new int[] {4}), Map.entry("of", new int[] {16, 6}), Map.entry("sent", new int[] {16, 5, 32}),
        Map.entry("find", new int[] {4, 32, 5, 32}), Map.entry("next", new int[] {4, 32}),
        Map.entry("why", new int[] {5, 32, 16}), Map.entry("block", new int[] {4}), Map.entry("host", new int[] {4, 4}),
        Map.entry("soon", new int[] {}), Map.entry("image", new int[] {2}), Map.entry("restore", new int[] {2}),
        Map.entry("count", new int[] {16}));

    private static String pickName(Random r) {
        int sum = 0;
        for (int weight : WEIGHTS) {
            sum += weight;
        }
        int at = r.nextInt(sum);
        int i = 0;
        while (at >= WEIGHTS[i]) {
            at -= WEIGHTS[i];
            i++;
        }
        return NAMES[i];
    }

    private static int[] pickNumbers(Random r, String name, boolean crowded) {
        int[] bounds = BOUNDS.get(name);
        int[] numbers = new int[bounds.length];
        for (int i = 0; i < bounds.length; i++) {
            int bound = bounds[i];
            // Few different numbers meet one another more often.
            int most = crowded && bound == 32 ? 6 : crowded && bound == 8 ? 3 : bound;
            numbers[i] = r.nextInt(most);
        }
        if (name.equals("tick") && r.nextInt(8) != 0) {
            numbers[0] = 1 + r.nextInt(3);
        }
        if (name.equals("rule")) {
            numbers[1] = r.nextInt(numbers[0] < 3 ? 3 : r.nextInt(2) == 0 ? 6 : 62);
            // MAPPING takes all BINDINGS away, so it changes seldom.
            numbers[0] = numbers[0] == 0 && r.nextInt(3) != 0 ? 1 : numbers[0];
        }
        if (numbers.length > 0 && r.nextInt(40) == 0) {
            int i = r.nextInt(numbers.length);
            int[] odd = {-1, bounds[i], bounds[i] + 1, Integer.MAX_VALUE, Integer.MIN_VALUE, 16, 4};
            numbers[i] = odd[r.nextInt(odd.length)];
        }
        return numbers;
    }

    private static boolean agrees(int seed) {
        Random r = new Random(seed);
        boolean crowded = r.nextInt(3) != 0;
        BoxBindings x = new BoxBindings();
        Model model = new Model();
        List<String> calls = new ArrayList<>();
        for (int i = 0; i < CALLS; i++) {
            String name = pickName(r);
            int[] numbers = pickNumbers(r, name, crowded);
            int want = model.call(name, numbers);
            int got = call(x, name, numbers);
            calls.add(name + Arrays.toString(numbers) + " answered " + got);
            if (got != want) {
                System.out.println("run " + seed + ": " + String.join("\n  ", calls) + ", due is " + want);
                return false;
            }
        }
        return true;
    }

    public static void main(String[] args) {
        int wrong = 0;
        for (int seed = 1; seed <= RUNS && wrong < 3; seed++) {
            wrong += agrees(seed) ? 0 : 1;
        }
        System.out.println(wrong == 0 ? "all runs agree with the model" : wrong + " runs do not agree with the model");
        if (wrong != 0) {
            System.exit(1);
        }
    }
}
