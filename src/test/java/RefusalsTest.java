import java.util.ArrayList;
import java.util.Arrays;
import java.util.List;

/**
 * Each call with every mix of numbers at their edges and beyond, in several states: the first refusal
 * that fits is told, and what is refused changes nothing.
 */
public final class RefusalsTest {
    private static final int UNKNOWN = Checks.UNKNOWN, OUTSIDE = Checks.OUTSIDE, STATE = Checks.STATE;
    private static final int FULL = Checks.FULL, NO = Checks.NO, NONE = Checks.NONE;

    /** What a number of a call is: from least to most, else refused as told. */
    private enum Kind {
        HOST(0, 3, UNKNOWN), PORT(0, 31, OUTSIDE), REMOTE(0, 4, OUTSIDE), REMOTE_PORT(0, 31, OUTSIDE),
        PACKET_REMOTE(0, 3, OUTSIDE), NAME(0, 7, OUTSIDE), PART(0, 7, OUTSIDE), OUTER(0, 15, UNKNOWN),
        BLOCK(0, 3, UNKNOWN), FLAG(0, 2, OUTSIDE), TICKS(1, 100, OUTSIDE), RULE(0, 5, OUTSIDE),
        RULE_VALUE(0, 60, OUTSIDE), OF_WHAT(0, 5, OUTSIDE), HOST_WHAT(0, 3, OUTSIDE), IMAGE(0, 1, OUTSIDE),
        COUNT_WHAT(0, 15, OUTSIDE);

        final int least, most, refusal;

        Kind(int least, int most, int refusal) {
            this.least = least;
            this.most = most;
            this.refusal = refusal;
        }

        /** The number that stands before it in the call tells how far some of them go. */
        boolean isRight(int n, int before) {
            return switch (this) {
                case REMOTE_PORT -> n >= 0 && n <= (before == 4 ? 15 : 31);
                case RULE_VALUE -> n >= (before <= 2 ? 0 : 1) && n <= new int[] {2, 2, 1, 60, 60, 60}[before];
                case COUNT_WHAT -> n >= 0 && n <= 5 || n >= 10 && n <= 15;
                default -> n >= least && n <= most;
            };
        }

        int[] edges() {
            return switch (this) {
                case REMOTE_PORT -> new int[] {Checks.MIN, -1, 0, 15, 16, 31, 32, Checks.MAX};
                case RULE_VALUE -> new int[] {Checks.MIN, -1, 0, 1, 2, 3, 60, 61, Checks.MAX};
                case COUNT_WHAT -> new int[] {Checks.MIN, -1, 0, 5, 6, 9, 10, 15, 16, Checks.MAX};
                case REMOTE -> new int[] {Checks.MIN, -1, 0, 3, 4, 5, Checks.MAX};
                case PART -> new int[] {Checks.MIN, -1, 0, 1, 7, 8, Checks.MAX};
                default -> new int[] {Checks.MIN, least - 1, least, most, most + 1, Checks.MAX};
            };
        }
    }

    /** The calls, each with its numbers; these stand in the order in which the document tells the refusals. */
    private enum Call {
        RULE(Kind.RULE, Kind.RULE_VALUE),
        OUT(Kind.HOST, Kind.PORT, Kind.REMOTE, Kind.REMOTE_PORT, Kind.FLAG),
        IN(Kind.REMOTE, Kind.REMOTE_PORT, Kind.OUTER, Kind.FLAG),
        TURN(Kind.HOST, Kind.PORT, Kind.OUTER, Kind.FLAG),
        PART(Kind.PACKET_REMOTE, Kind.NAME, Kind.PART, Kind.REMOTE_PORT, Kind.OUTER),
        TICK(Kind.TICKS),
        DROP(Kind.HOST),
        OF(Kind.OUTER, Kind.OF_WHAT),
        SENT(Kind.OUTER, Kind.REMOTE, Kind.REMOTE_PORT),
        FIND(Kind.HOST, Kind.PORT, Kind.REMOTE, Kind.REMOTE_PORT),
        NEXT(Kind.HOST, Kind.PORT),
        WHY(Kind.REMOTE, Kind.REMOTE_PORT, Kind.OUTER),
        BLOCK(Kind.BLOCK),
        HOST(Kind.HOST, Kind.HOST_WHAT),
        IMAGE(Kind.IMAGE),
        RESTORE(Kind.IMAGE),
        COUNT(Kind.COUNT_WHAT);

        final Kind[] kinds;

        Call(Kind... kinds) {
            this.kinds = kinds;
        }

        int on(BoxBindings x, int[] a) {
            return switch (this) {
                case RULE -> x.rule(a[0], a[1]);
                case OUT -> x.out(a[0], a[1], a[2], a[3], a[4]);
                case IN -> x.in(a[0], a[1], a[2], a[3]);
                case TURN -> x.turn(a[0], a[1], a[2], a[3]);
                case PART -> x.part(a[0], a[1], a[2], a[3], a[4]);
                case TICK -> x.tick(a[0]);
                case DROP -> x.drop(a[0]);
                case OF -> x.of(a[0], a[1]);
                case SENT -> x.sent(a[0], a[1], a[2]);
                case FIND -> x.find(a[0], a[1], a[2], a[3]);
                case NEXT -> x.next(a[0], a[1]);
                case WHY -> x.why(a[0], a[1], a[2]);
                case BLOCK -> x.block(a[0]);
                case HOST -> x.host(a[0], a[1]);
                case IMAGE -> x.image(a[0]);
                case RESTORE -> x.restore(a[0]);
                case COUNT -> x.count(a[0]);
            };
        }

        /** The first refusal that fits numbers, or 0 if none does. */
        int refusal(int[] a) {
            for (int i = 0; i < kinds.length; i++) {
                // Only PART 0 tells its ports: of the others they are no matter.
                if (this == PART && i > 2 && a[2] != 0) {
                    return 0;
                }
                // The number before REMOTE_PORT of a part is PART, and 0 there: its ports are 0 to 31.
                if (!kinds[i].isRight(a[i], i == 0 ? 0 : a[i - 1])) {
                    return kinds[i].refusal;
                }
            }
            return 0;
        }

        List<int[]> mixes() {
            List<int[]> mixes = new ArrayList<>();
            mixes.add(new int[kinds.length]);
            for (int i = 0; i < kinds.length; i++) {
                List<int[]> longer = new ArrayList<>();
                for (int[] mix : mixes) {
                    for (int edge : kinds[i].edges()) {
                        int[] a = mix.clone();
                        a[i] = edge;
                        longer.add(a);
                    }
                }
                mixes = longer;
            }
            return mixes;
        }
    }

    private enum State {
        EMPTY, BUSY, ALL_LENT;

        BoxBindings make() {
            BoxBindings x = new BoxBindings();
            switch (this) {
                case BUSY -> makeBusy(x);
                case ALL_LENT -> makeAllLent(x);
                default -> { }
            }
            return x;
        }
    }

    /** BINDINGS of each kind, one that is KNOWN, some that are HELD, and one IMAGE. */
    private static void makeBusy(BoxBindings x) {
        x.rule(0, 1);
        x.out(0, 0, 0, 0, 0);
        x.part(0, 0, 1, 0, 0);
        x.image(0);
        x.tick(1);
        x.rule(1, 1);
        x.rule(2, 1);
        x.rule(3, 9);
        x.out(0, 31, 3, 31, 2);
        x.out(3, 31, 4, 15, 0);
        x.in(4, 15, 15, 0);
        x.out(1, 0, 2, 31, 0);
        x.part(0, 7, 0, 0, 0);
        x.part(3, 7, 7, 0, 0);
        x.tick(1);
    }

    private static void makeAllLent(BoxBindings x) {
        for (int port = 0; port <= 15; port++) {
            x.out(0, port, 0, 0, port == 3 ? 2 : 0);
        }
        for (int part = 1; part <= 6; part++) {
            x.part(0, 0, part, 0, 0);
        }
        x.part(3, 0, 0, 31, 15);
        x.image(1);
        x.tick(1);
    }

    // A state takes up to 26 calls and all that is told of it up to 410; an object is good for 512.
    private static final int CALLS_OF_ONE_OBJECT = 60;

    /** All that is told: now, in the ticks that come, and of what the IMAGES keep. */
    private static String allTold(BoxBindings x) {
        StringBuilder text = new StringBuilder();
        tellNow(x, text);
        for (int tick = 0; tick < 5; tick++) {
            text.append(x.tick(1)).append(' ').append(x.count(0)).append(' ');
            text.append(x.count(3)).append(' ').append(x.count(4)).append(", ");
        }
        for (int k = 0; k <= 1; k++) {
            text.append(x.restore(k)).append(": ");
            tellNow(x, text);
        }
        return text.toString();
    }

    private static void tellNow(BoxBindings x, StringBuilder text) {
        for (int what = 0; what <= 15; what++) {
            if (what <= 5 || what >= 10) {
                text.append(x.count(what)).append(' ');
            }
        }
        for (int outer = 0; outer <= 15; outer++) {
            for (int what = 0; what <= 5; what++) {
                text.append(x.of(outer, what)).append(' ');
            }
        }
        for (int n = 0; n <= 3; n++) {
            text.append(x.block(n)).append(' ');
            for (int what = 0; what <= 3; what++) {
                text.append(x.host(n, what)).append(' ');
            }
        }
        text.append(x.soon()).append("; ");
    }

    private static void dueRefusals(Call call) {
        for (State state : State.values()) {
            List<int[]> refused = new ArrayList<>();
            for (int[] a : call.mixes()) {
                if (call.refusal(a) != 0) {
                    refused.add(a);
                } else {
                    dueTaken(call, a, state);
                }
            }
            Checks.holds("some are refused", !refused.isEmpty());
            for (int from = 0; from < refused.size(); from += CALLS_OF_ONE_OBJECT) {
                dueRefused(call, refused.subList(from, Math.min(refused.size(), from + CALLS_OF_ONE_OBJECT)), state);
            }
        }
    }

    private static void dueTaken(Call call, int[] a, State state) {
        Checks.says("OUTSIDE -2 (another number is not as told)");
        int got = call.on(state.make(), a);
        Checks.holds(call + Arrays.toString(a) + " in " + state + " is right, and answered " + got,
            got != UNKNOWN && got != OUTSIDE);
    }

    private static void dueRefused(Call call, List<int[]> refused, State state) {
        Checks.says("Calls that are refused answer the first that fits, in the order in which they are told with the call");
        BoxBindings x = state.make();
        for (int[] a : refused) {
            Checks.due(call + Arrays.toString(a) + " in " + state, call.on(x, a), call.refusal(a));
        }
        Checks.says("What is refused changes nothing.");
        dueSame(call + " refused", x, state);
    }

    private static void dueSame(String what, BoxBindings x, State state) {
        Checks.holds(what + " in " + state + " changed nothing", allTold(x).equals(allTold(state.make())));
    }

    /** Were a state not as meant, a change could go by unseen. */
    static void statesAreAsMeant() {
        BoxBindings busy = State.BUSY.make();
        Checks.due("of(0, 1), OPEN", busy.of(0, 1), 1);
        Checks.due("of(1, 1), CLOSING", busy.of(1, 1), 2);
        Checks.due("of(15, 1), OPEN", busy.of(15, 1), 1);
        Checks.due("of(4, 1), NEW", busy.of(4, 1), 0);
        int[] busyCounts = {4, 2, 1, 2, 1, 1};
        BoxBindings full = State.ALL_LENT.make();
        int[] fullCounts = {16, 1, 0, 6, 1, 2};
        for (int what = 0; what <= 5; what++) {
            Checks.due("count(" + what + "), busy", busy.count(what), busyCounts[what]);
            Checks.due("count(" + what + "), all lent", full.count(what), fullCounts[what]);
        }
    }

    static void refusedRule() {
        dueRefusals(Call.RULE);
    }

    static void refusedOut() {
        dueRefusals(Call.OUT);
    }

    static void refusedIn() {
        dueRefusals(Call.IN);
    }

    static void refusedTurn() {
        dueRefusals(Call.TURN);
    }

    static void refusedPart() {
        dueRefusals(Call.PART);
    }

    static void refusedTick() {
        dueRefusals(Call.TICK);
    }

    static void refusedDrop() {
        dueRefusals(Call.DROP);
    }

    static void refusedOf() {
        dueRefusals(Call.OF);
    }

    static void refusedSent() {
        dueRefusals(Call.SENT);
    }

    static void refusedFind() {
        dueRefusals(Call.FIND);
    }

    static void refusedNext() {
        dueRefusals(Call.NEXT);
    }

    static void refusedWhy() {
        dueRefusals(Call.WHY);
    }

    static void refusedBlock() {
        dueRefusals(Call.BLOCK);
    }

    static void refusedHost() {
        dueRefusals(Call.HOST);
    }

    static void refusedImage() {
        dueRefusals(Call.IMAGE);
    }

    static void refusedRestore() {
        dueRefusals(Call.RESTORE);
    }

    static void refusedCount() {
        dueRefusals(Call.COUNT);
    }

    static void noChangesNothing() {
        Checks.says("What is refused changes nothing.");
        for (int flag = 0; flag <= 2; flag++) {
            BoxBindings x = State.ALL_LENT.make();
            for (int host = 0; host <= 3; host++) {
                Checks.due("out", x.out(host, 16, 3, 31, flag), NO);
                Checks.due("turn", x.turn(host, 31, 15, flag), NO);
            }
            dueSame("NO", x, State.ALL_LENT);
        }
    }

    static void fullChangesNothing() {
        Checks.says("What is refused changes nothing.");
        BoxBindings x = State.ALL_LENT.make();
        Checks.due("part 7 of the one that is HELD", x.part(0, 0, 7, 0, 0), FULL);
        for (int remote = 0; remote <= 3; remote++) {
            Checks.due("part 1 of another", x.part(remote, 7, 1, 0, 0), FULL);
        }
        dueSame("FULL", x, State.ALL_LENT);
    }

    static void stateChangesNothing() {
        Checks.says("What is refused changes nothing.");
        BoxBindings busy = State.BUSY.make();
        Checks.due("restore(1)", busy.restore(1), STATE);
        dueSame("STATE", busy, State.BUSY);
        BoxBindings full = State.ALL_LENT.make();
        Checks.due("restore(0)", full.restore(0), STATE);
        dueSame("STATE", full, State.ALL_LENT);
    }

    static void whatIsToldChangesNothing() {
        Checks.says("---- 2 what is told.");
        for (State state : State.values()) {
            for (Call call : new Call[] {Call.OF, Call.SENT, Call.FIND, Call.NEXT, Call.WHY, Call.BLOCK, Call.HOST, Call.COUNT}) {
                dueToldChangesNothing(call, state);
            }
        }
    }

    private static void dueToldChangesNothing(Call call, State state) {
        BoxBindings x = state.make();
        int calls = 0;
        for (int[] a : call.mixes()) {
            if (call.refusal(a) == 0 && calls < CALLS_OF_ONE_OBJECT) {
                call.on(x, a);
                calls++;
            }
        }
        x.soon();
        dueSame(call.toString(), x, state);
    }

    static void inNotLetInChangesNothing() {
        Checks.says("NONE: it is not let in.");
        BoxBindings x = State.BUSY.make();
        for (int flag = 0; flag <= 2; flag++) {
            Checks.due("in, not lent", x.in(0, 0, 15, flag), NONE);
            Checks.due("in by FILTER 1", x.in(1, 0, 0, flag), NONE);
        }
        dueSame("IN that is not let in", x, State.BUSY);
    }

    /** What an object answers after its 512 calls is free, but it must answer. */
    static void laterCallsAnswerToo() {
        Checks.says("An object is used for at most 512 calls after it has been made; what later calls answer is free.");
        BoxBindings x = State.BUSY.make();
        for (Call call : Call.values()) {
            for (int[] a : call.mixes()) {
                call.on(x, a);
            }
            x.soon();
        }
    }

    public static void main(String[] args) {
        Checks.runAll(RefusalsTest.class);
    }
}
