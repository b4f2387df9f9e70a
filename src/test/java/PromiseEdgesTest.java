/** The edges that promises 1 to 19 of the document name: a test for each sentence, its name begun with its promise. */
public final class PromiseEdgesTest {
    private static final int UNKNOWN = Checks.UNKNOWN, OUTSIDE = Checks.OUTSIDE, STATE = Checks.STATE;
    private static final int FULL = Checks.FULL, NO = Checks.NO, NONE = Checks.NONE;
    private static final int NEW = 0, OPEN = 1, CLOSING = 2;
    private static final int FLAG_NONE = 0, FLAG_OPEN = 1, FLAG_CLOSE = 2;
    private static final int[] FAR = {Checks.MIN, -1, Checks.MAX};

    private static void due(String call, int got, int want) {
        Checks.due(call, got, want);
    }

    private static int lend(BoxBindings x, int host, int port) {
        return x.out(host, port, 0, 0, FLAG_NONE);
    }

    /** All 16 OUTER PORTS are lent, each to the port of HOST 0 with its number. */
    private static BoxBindings allLent() {
        BoxBindings x = new BoxBindings();
        for (int port = 0; port <= 15; port++) {
            due("out", lend(x, 0, port), port);
        }
        return x;
    }

    /** HOST b has BLOCK b, by its first OUTER PORT. */
    private static BoxBindings blockForEachHost() {
        BoxBindings x = new BoxBindings();
        for (int host = 0; host <= 3; host++) {
            due("out", lend(x, host, 4 * host), 4 * host);
        }
        return x;
    }

    // ---- Promise 1

    static void p01NoBindings() {
        Checks.says("No BINDINGS");
        BoxBindings x = new BoxBindings();
        due("count(0)", x.count(0), 0);
        due("count(2)", x.count(2), 4);
        due("soon()", x.soon(), NONE);
        for (int outer = 0; outer <= 15; outer++) {
            due("of(" + outer + ", 0)", x.of(outer, 0), NONE);
            due("sent(" + outer + ", 0, 0)", x.sent(outer, 0, 0), NONE);
            due("why(0, 0, " + outer + ")", x.why(0, 0, outer), 1);
            due("in to " + outer, x.in(0, 0, outer, 0), NONE);
        }
        for (int n = 0; n <= 3; n++) {
            due("block(" + n + ")", x.block(n), NONE);
            due("host(" + n + ", 0)", x.host(n, 0), 0);
            due("host(" + n + ", 1)", x.host(n, 1), 0);
            due("find of HOST " + n, x.find(n, 0, 0, 0), NONE);
            due("drop(" + n + ")", x.drop(n), 0);
        }
        due("tick(100)", x.tick(100), 0);
    }

    static void p01Time0() {
        Checks.says("TIME 0");
        due("count(1)", new BoxBindings().count(1), 0);
    }

    static void p01NothingHeldOrKnown() {
        Checks.says("nothing is HELD or KNOWN");
        BoxBindings x = new BoxBindings();
        due("count(3)", x.count(3), 0);
        due("count(4)", x.count(4), 0);
        for (int part = 1; part <= 6; part++) {
            due("part, none is KNOWN", x.part(3, 7, part, 0, 0), 0);
        }
        BoxBindings first = new BoxBindings();
        for (int remote = 0; remote <= 3; remote++) {
            for (int name = 0; name <= 7; name++) {
                due("part 1 of " + remote + ", " + name + ", not KNOWN", first.part(remote, name, 1, 0, 0), 0);
                due("part 0, it goes lost", first.part(remote, name, 0, 0, 0), NONE);
            }
        }
    }

    static void p01NoImageKept() {
        Checks.says("no IMAGE is kept");
        BoxBindings x = new BoxBindings();
        due("count(5)", x.count(5), 0);
        due("restore(0)", x.restore(0), STATE);
        due("restore(1)", x.restore(1), STATE);
    }

    static void p01EachObjectIsItsOwn() {
        Checks.says("No BINDINGS, TIME 0, nothing is HELD or KNOWN; no IMAGE is kept.");
        BoxBindings used = allLent();
        used.part(0, 0, 1, 0, 0);
        used.part(0, 1, 0, 0, 0);
        used.image(0);
        used.rule(1, 2);
        used.rule(3, 60);
        used.tick(1);
        BoxBindings x = new BoxBindings();
        for (int what = 0; what <= 5; what++) {
            due("count(" + what + ")", x.count(what), what == 2 ? 4 : 0);
        }
        due("count(11)", x.count(11), 0);
        due("count(13)", x.count(13), 4);
        due("restore(0)", x.restore(0), STATE);
        due("count(0) of the used one", used.count(0), 16);
    }

    // ---- Promise 2

    static void p02TellsWhichItWas() {
        Checks.says("A RULE is v: which it was.");
        BoxBindings x = new BoxBindings();
        int[] first = {0, 0, 0, 4, 20, 2};
        int[] v = {2, 1, 1, 60, 1, 59};
        for (int what = 0; what <= 5; what++) {
            due("rule(" + what + ", ..)", x.rule(what, v[what]), first[what]);
            due("rule, the same again", x.rule(what, v[what]), v[what]);
        }
        for (int what = 0; what <= 5; what++) {
            due("count(" + (10 + what) + ")", x.count(10 + what), v[what]);
        }
    }

    static void p02OutsideWhat() {
        Checks.says("OUTSIDE: both.");
        BoxBindings x = new BoxBindings();
        due("rule(-1, 1)", x.rule(-1, 1), OUTSIDE);
        due("rule(6, 1)", x.rule(6, 1), OUTSIDE);
        due("rule(10, 1)", x.rule(10, 1), OUTSIDE);
        due("rule(MIN, 1)", x.rule(Checks.MIN, 1), OUTSIDE);
        due("rule(MAX, 1)", x.rule(Checks.MAX, 1), OUTSIDE);
        due("rule(6, 61)", x.rule(6, 61), OUTSIDE);
    }

    static void p02OutsideV() {
        Checks.says("OUTSIDE: both.");
        BoxBindings x = allLent();
        int[] least = {0, 0, 0, 1, 1, 1};
        int[] most = {2, 2, 1, 60, 60, 60};
        int[] first = {0, 0, 0, 4, 20, 2};
        for (int what = 0; what <= 5; what++) {
            due("too small", x.rule(what, least[what] - 1), OUTSIDE);
            due("too large", x.rule(what, most[what] + 1), OUTSIDE);
            for (int n : FAR) {
                due("far out", x.rule(what, n), OUTSIDE);
            }
            due("count(" + (10 + what) + "), nothing is changed", x.count(10 + what), first[what]);
        }
        due("count(0), no BINDING goes", x.count(0), 16);
    }

    static void p02AnotherMappingAllBindingsGo() {
        Checks.says("If MAPPING becomes another one, all BINDINGS go.");
        for (int from = 0; from <= 2; from++) {
            for (int to = 0; to <= 2; to++) {
                BoxBindings x = new BoxBindings();
                x.rule(0, from);
                for (int port = 0; port <= 15; port++) {
                    lend(x, 3, port);
                }
                x.in(0, 0, 15, 0);
                x.in(0, 0, 14, 2);
                due("rule(0, " + to + ")", x.rule(0, to), from);
                due("count(0), from " + from + " to " + to, x.count(0), from == to ? 16 : 0);
                due("count(2)", x.count(2), from == to ? 0 : 4);
                due("soon()", x.soon(), from == to ? 2 : NONE);
            }
        }
    }

    static void p02OtherRulesTakeNoBindings() {
        Checks.says("If MAPPING becomes another one, all BINDINGS go.");
        BoxBindings x = allLent();
        x.rule(1, 2);
        x.rule(2, 1);
        x.rule(3, 60);
        x.rule(3, 1);
        x.rule(4, 1);
        x.rule(5, 1);
        due("count(0)", x.count(0), 16);
    }

    static void p02NoBindingsYet() {
        Checks.says("If MAPPING becomes another one, all BINDINGS go.");
        BoxBindings x = new BoxBindings();
        due("rule(0, 1)", x.rule(0, 1), 0);
        due("count(0)", x.count(0), 0);
        due("out", lend(x, 0, 0), 0);
        due("rule(0, 0), and back", x.rule(0, 0), 1);
        due("count(0)", x.count(0), 0);
    }

    static void p02AllBindingsGoHeldStays() {
        Checks.says("If MAPPING becomes another one, all BINDINGS go.");
        BoxBindings x = allLent();
        x.part(0, 0, 1, 0, 0);
        x.part(0, 1, 0, 0, 15);
        x.tick(1);
        x.rule(0, 2);
        due("count(1)", x.count(1), 1);
        due("count(3)", x.count(3), 1);
        due("count(4), their BINDING is gone", x.count(4), 0);
    }

    // ---- Promise 3

    static void p03ByWhichOuterPort() {
        Checks.says("OUT: by which OUTER PORT.");
        BoxBindings x = new BoxBindings();
        due("the least of all", x.out(0, 0, 0, 0, 0), 0);
        due("the most of all", x.out(3, 31, 4, 15, 2), 15);
        due("the most of all, again", x.out(3, 31, 3, 31, 2), 15);
    }

    static void p03UnknownHost() {
        Checks.says("UNKNOWN: HOST");
        BoxBindings x = new BoxBindings();
        due("HOST 4", x.out(4, 0, 0, 0, 0), UNKNOWN);
        for (int n : FAR) {
            due("HOST " + n, x.out(n, 0, 0, 0, 0), UNKNOWN);
        }
        due("HOST 4, all else wrong", x.out(4, 32, 5, 32, 3), UNKNOWN);
        due("count(0)", x.count(0), 0);
    }

    static void p03OutsidePort() {
        Checks.says("OUTSIDE: port");
        BoxBindings x = new BoxBindings();
        due("port 32", x.out(0, 32, 0, 0, 0), OUTSIDE);
        for (int n : FAR) {
            due("port " + n, x.out(0, n, 0, 0, 0), OUTSIDE);
        }
        due("count(0)", x.count(0), 0);
    }

    static void p03OutsideRemoteAndItsPort() {
        Checks.says("OUTSIDE: port, REMOTE, its port (of 4: 0 to 15)");
        BoxBindings x = new BoxBindings();
        due("REMOTE 5", x.out(0, 0, 5, 0, 0), OUTSIDE);
        for (int remote = 0; remote <= 3; remote++) {
            due("port 32 of " + remote, x.out(0, 0, remote, 32, 0), OUTSIDE);
        }
        due("port 16 of 4", x.out(0, 0, 4, 16, 0), OUTSIDE);
        due("port 31 of 4", x.out(0, 0, 4, 31, 0), OUTSIDE);
        for (int n : FAR) {
            due("REMOTE " + n, x.out(0, 0, n, 0, 0), OUTSIDE);
            due("port " + n + " of 0", x.out(0, 0, 0, n, 0), OUTSIDE);
            due("port " + n + " of 4", x.out(0, 0, 4, n, 0), OUTSIDE);
        }
        due("count(0)", x.count(0), 0);
        due("port 15 of 4", x.out(0, 0, 4, 15, 0), 0);
        due("port 16 of 3", x.out(0, 0, 3, 16, 0), 0);
    }

    static void p03OutsideFlag() {
        Checks.says("OUTSIDE: port, REMOTE, its port (of 4: 0 to 15), flag");
        BoxBindings x = new BoxBindings();
        lend(x, 0, 0);
        due("flag 3", x.out(0, 0, 1, 0, 3), OUTSIDE);
        for (int n : FAR) {
            due("flag " + n, x.out(0, 0, 1, 0, n), OUTSIDE);
        }
        due("of(0, 3), nothing more is SENT", x.of(0, 3), 1);
        due("of(0, 1)", x.of(0, 1), NEW);
    }

    static void p03NoWhenAllAreLent() {
        Checks.says("NO: a BINDING would have to be made, and the ports have run out for it.");
        BoxBindings x = allLent();
        for (int host = 0; host <= 3; host++) {
            for (int port = 16; port <= 31; port++) {
                due("out of " + host + ", " + port, lend(x, host, port), NO);
            }
        }
        due("count(0)", x.count(0), 16);
        due("of(0, 3), nothing is SENT by it", x.of(0, 3), 1);
        due("out, none has to be made", x.out(0, 15, 3, 31, 0), 15);
        due("flag goes before NO", x.out(1, 0, 0, 0, 3), OUTSIDE);
    }

    static void p03NoByMapping() {
        Checks.says("NO: a BINDING would have to be made, and the ports have run out for it.");
        for (int mapping = 1; mapping <= 2; mapping++) {
            BoxBindings x = new BoxBindings();
            x.rule(0, mapping);
            for (int port = 0; port <= 15; port++) {
                lend(x, 0, port);
            }
            due("out to another port of the REMOTE", x.out(0, 5, 0, 1, 0), mapping == 1 ? 5 : NO);
            due("out to another REMOTE", x.out(0, 5, 1, 0, 0), NO);
            due("out to the same", x.out(0, 5, 0, 0, 0), 5);
        }
    }

    static void p03NoForOneNotForAnother() {
        Checks.says("the ports have run out for it");
        BoxBindings x = blockForEachHost();
        for (int i = 1; i <= 3; i++) {
            due("out of an own BLOCK", lend(x, 0, 16 + i), i);
        }
        due("out, its BLOCK is full", lend(x, 0, 20), NO);
        due("out of another HOST", lend(x, 1, 20), 5);
        due("tick(4)", x.tick(4), 8);
        due("out, all have lapsed", lend(x, 0, 20), 4);
    }

    // ---- Promise 4

    static void p04ToWhomItGoes() {
        Checks.says("IN: 32 times the HOST, and its port, added, to which it goes");
        for (int host = 0; host <= 3; host++) {
            for (int port : new int[] {0, 31}) {
                BoxBindings x = new BoxBindings();
                int outer = lend(x, host, port);
                due("in", x.in(3, 31, outer, 0), 32 * host + port);
                due("in from the box", x.in(4, 15, outer, 2), 32 * host + port);
            }
        }
    }

    static void p04NoneNotLetIn() {
        Checks.says("NONE: it is not let in.");
        BoxBindings x = new BoxBindings();
        lend(x, 0, 0);
        due("not lent", x.in(0, 0, 1, 0), NONE);
        x.rule(1, 1);
        due("by FILTER 1", x.in(1, 0, 0, 0), NONE);
        x.rule(1, 2);
        due("by FILTER 2", x.in(0, 1, 0, 0), NONE);
        due("let in", x.in(0, 0, 0, 0), 0);
    }

    static void p04OutsideRemoteAndItsPort() {
        Checks.says("OUTSIDE: REMOTE, its port (of 4: 0 to 15)");
        BoxBindings x = allLent();
        due("REMOTE 5", x.in(5, 0, 0, 0), OUTSIDE);
        for (int remote = 0; remote <= 3; remote++) {
            due("port 32 of " + remote, x.in(remote, 32, 0, 0), OUTSIDE);
        }
        due("port 16 of 4", x.in(4, 16, 0, 0), OUTSIDE);
        due("port 31 of 4", x.in(4, 31, 0, 0), OUTSIDE);
        for (int n : FAR) {
            due("REMOTE " + n, x.in(n, 0, 0, 0), OUTSIDE);
            due("port " + n + " of 0", x.in(0, n, 0, 0), OUTSIDE);
            due("port " + n + " of 4", x.in(4, n, 0, 0), OUTSIDE);
        }
        due("REMOTE goes before the OUTER PORT", x.in(5, 0, 16, 0), OUTSIDE);
        due("its port goes before the OUTER PORT", x.in(0, 32, 16, 0), OUTSIDE);
        due("of(0, 1)", x.of(0, 1), NEW);
    }

    static void p04UnknownOuterPort() {
        Checks.says("UNKNOWN: the OUTER PORT");
        BoxBindings x = allLent();
        due("OUTER PORT 16", x.in(0, 0, 16, 0), UNKNOWN);
        for (int n : FAR) {
            due("OUTER PORT " + n, x.in(0, 0, n, 0), UNKNOWN);
        }
        due("the OUTER PORT goes before the flag", x.in(0, 0, 16, 3), UNKNOWN);
    }

    static void p04OutsideFlag() {
        Checks.says("UNKNOWN: the OUTER PORT; OUTSIDE: flag.");
        BoxBindings x = new BoxBindings();
        lend(x, 0, 0);
        due("flag 3", x.in(0, 0, 0, 3), OUTSIDE);
        for (int n : FAR) {
            due("flag " + n, x.in(0, 0, 0, n), OUTSIDE);
        }
        due("of(0, 1)", x.of(0, 1), NEW);
        due("flag 3, not lent", x.in(0, 0, 15, 3), OUTSIDE);
    }

    // ---- Promise 5

    static void p05OutAndThenIn() {
        Checks.says("OUT to that port of REMOTE 4, and, by the OUTER PORT through which that goes, as port of REMOTE 4,"
            + " IN to it (with the same flag): 32 times the HOST and the port, added, to which it goes");
        BoxBindings x = new BoxBindings();
        lend(x, 0, 0);
        due("turn, the most to the least", x.turn(3, 31, 0, 0), 0);
        due("sent(15, 4, 0)", x.sent(15, 4, 0), 1);
        due("of(15, 1), OUT alone", x.of(15, 1), NEW);
        due("of(0, 1), IN", x.of(0, 1), OPEN);
        due("turn, the least to the most", x.turn(0, 0, 15, 0), 127);
        due("sent(0, 4, 15)", x.sent(0, 4, 15), 1);
        due("of(15, 1)", x.of(15, 1), OPEN);
        due("of(0, 3)", x.of(0, 3), 2);
    }

    static void p05TheSameFlagForBoth() {
        Checks.says("IN to it (with the same flag)");
        int[] from = {NEW, NEW, CLOSING};
        int[] to = {OPEN, OPEN, CLOSING};
        for (int flag = FLAG_NONE; flag <= FLAG_CLOSE; flag++) {
            BoxBindings x = new BoxBindings();
            lend(x, 0, 0);
            due("turn, flag " + flag, x.turn(1, 4, 0, flag), 0);
            due("of(4, 1)", x.of(4, 1), from[flag]);
            due("of(0, 1)", x.of(0, 1), to[flag]);
        }
        BoxBindings closing = new BoxBindings();
        closing.out(0, 0, 0, 0, FLAG_CLOSE);
        closing.out(1, 4, 0, 0, FLAG_CLOSE);
        due("turn with OPEN", closing.turn(1, 4, 0, FLAG_OPEN), 0);
        due("of(4, 1), by OUT", closing.of(4, 1), NEW);
        due("of(0, 1), by IN", closing.of(0, 1), CLOSING);
    }

    static void p05ToItself() {
        Checks.says("A HOST sends from a port to an OUTER PORT of the box");
        for (int filter = 0; filter <= 2; filter++) {
            BoxBindings x = new BoxBindings();
            x.rule(1, filter);
            due("turn to the one that it makes", x.turn(3, 31, 15, 0), 127);
            due("of(15, 1)", x.of(15, 1), OPEN);
            due("of(15, 3)", x.of(15, 3), 1);
            due("turn to it again with CLOSE", x.turn(3, 31, 15, 2), 127);
            due("of(15, 1)", x.of(15, 1), CLOSING);
            due("turn to it again with OPEN", x.turn(3, 31, 15, 1), 127);
            due("of(15, 1), NEW by OUT, OPEN by IN", x.of(15, 1), OPEN);
        }
    }

    static void p05ByMapping2EachPortIsAnother() {
        Checks.says("OUT to that port of REMOTE 4");
        BoxBindings x = new BoxBindings();
        x.rule(0, 2);
        lend(x, 0, 0);
        due("turn", x.turn(1, 8, 0, 0), 0);
        due("of(8, 4)", x.of(8, 4), 4);
        due("of(8, 5)", x.of(8, 5), 0);
        due("turn to another port: not lent", x.turn(1, 8, 15, 0), NONE);
        due("of(9, 5)", x.of(9, 5), 15);
        due("count(0)", x.count(0), 3);
    }

    static void p05NoneOutHasBeenDone() {
        Checks.says("NONE: it is not let in (OUT has been done).");
        BoxBindings x = new BoxBindings();
        due("turn, not lent", x.turn(1, 4, 15, 2), NONE);
        due("of(4, 0)", x.of(4, 0), 36);
        due("of(4, 1)", x.of(4, 1), CLOSING);
        due("sent(4, 4, 15)", x.sent(4, 4, 15), 1);
        x.tick(1);
        x.rule(1, 2);
        lend(x, 0, 0);
        due("turn by FILTER 2", x.turn(1, 4, 0, 1), NONE);
        due("of(4, 1)", x.of(4, 1), NEW);
        due("of(4, 2)", x.of(4, 2), 4);
        due("of(4, 3)", x.of(4, 3), 2);
        due("of(0, 1), not let in", x.of(0, 1), NEW);
        x.rule(1, 1);
        due("turn by FILTER 1", x.turn(1, 4, 0, 0), NONE);
    }

    static void p05FilterTakesThePortItGoesThrough() {
        Checks.says("by the OUTER PORT through which that goes, as port of REMOTE 4, IN to it");
        BoxBindings x = new BoxBindings();
        x.rule(1, 2);
        due("out to the port that it will come from", x.out(0, 0, 4, 7, 0), 0);
        due("turn through 7", x.turn(1, 23, 0, 0), 0);
        due("turn through 6", x.turn(1, 6, 0, 0), NONE);
        x.rule(1, 1);
        due("turn through 6 by FILTER 1", x.turn(1, 6, 0, 0), 0);
        BoxBindings other = new BoxBindings();
        other.rule(1, 1);
        other.out(0, 0, 3, 7, 0);
        due("turn, nothing is SENT to the box", other.turn(1, 23, 0, 0), NONE);
    }

    static void p05ThroughAnotherThanLike() {
        Checks.says("by the OUTER PORT through which that goes, as port of REMOTE 4, IN to it");
        BoxBindings x = new BoxBindings();
        x.rule(1, 2);
        due("out to 5, LIKE of the port that will turn", x.out(0, 0, 4, 5, 0), 0);
        due("out", lend(x, 2, 5), 5);
        due("next(1, 21), as BLOCK 1 is another's", x.next(1, 21), 8);
        due("turn through 8", x.turn(1, 21, 0, 0), NONE);
        due("of(0, 1), not let in", x.of(0, 1), NEW);
        due("out to 8", x.out(0, 0, 4, 8, 0), 0);
        due("turn through 8, which is SENT", x.turn(1, 21, 0, 0), 0);
        due("of(0, 1)", x.of(0, 1), OPEN);
    }

    static void p05UnknownHost() {
        Checks.says("UNKNOWN: HOST; OUTSIDE: port; UNKNOWN: the OUTER PORT; OUTSIDE: flag");
        BoxBindings x = allLent();
        due("HOST 4", x.turn(4, 0, 0, 0), UNKNOWN);
        for (int n : FAR) {
            due("HOST " + n, x.turn(n, 0, 0, 0), UNKNOWN);
        }
        due("HOST goes first", x.turn(4, 32, 16, 3), UNKNOWN);
    }

    static void p05OutsidePort() {
        Checks.says("UNKNOWN: HOST; OUTSIDE: port; UNKNOWN: the OUTER PORT; OUTSIDE: flag");
        BoxBindings x = allLent();
        due("port 32", x.turn(0, 32, 0, 0), OUTSIDE);
        for (int n : FAR) {
            due("port " + n, x.turn(0, n, 0, 0), OUTSIDE);
        }
        due("port goes before the OUTER PORT", x.turn(0, 32, 16, 3), OUTSIDE);
    }

    static void p05UnknownOuterPort() {
        Checks.says("UNKNOWN: HOST; OUTSIDE: port; UNKNOWN: the OUTER PORT; OUTSIDE: flag");
        BoxBindings x = allLent();
        due("OUTER PORT 16", x.turn(0, 0, 16, 0), UNKNOWN);
        for (int n : FAR) {
            due("OUTER PORT " + n, x.turn(0, 0, n, 0), UNKNOWN);
        }
        due("the OUTER PORT goes before the flag", x.turn(0, 0, 16, 3), UNKNOWN);
        due("the OUTER PORT goes before NO", x.turn(1, 0, 16, 0), UNKNOWN);
        due("of(0, 3), no OUT was done", x.of(0, 3), 1);
    }

    static void p05OutsideFlag() {
        Checks.says("UNKNOWN: HOST; OUTSIDE: port; UNKNOWN: the OUTER PORT; OUTSIDE: flag; NO, as with out().");
        BoxBindings x = allLent();
        due("flag 3", x.turn(0, 0, 0, 3), OUTSIDE);
        for (int n : FAR) {
            due("flag " + n, x.turn(0, 0, 0, n), OUTSIDE);
        }
        due("flag goes before NO", x.turn(1, 0, 0, 3), OUTSIDE);
        due("of(0, 3), no OUT was done", x.of(0, 3), 1);
    }

    static void p05NoAsWithOut() {
        Checks.says("NO, as with out().");
        BoxBindings x = allLent();
        x.tick(1);
        due("turn of a HOST without BLOCKS", x.turn(1, 0, 3, 2), NO);
        due("turn of a port without BINDING", x.turn(0, 16, 3, 2), NO);
        due("of(3, 1), no IN was done", x.of(3, 1), NEW);
        due("of(3, 2)", x.of(3, 2), 3);
        due("turn by a BINDING that is there", x.turn(0, 15, 3, 2), 3);
    }

    // ---- Promise 6

    static void p06HowManyGoOn() {
        Checks.says("how many PARTS go on to the HOST (0: it is HELD)");
        BoxBindings x = new BoxBindings();
        lend(x, 0, 0);
        due("the first, HELD", x.part(3, 7, 7, 0, 0), 0);
        due("again, HELD", x.part(3, 7, 7, 0, 0), 0);
        for (int part = 2; part <= 6; part++) {
            due("HELD", x.part(3, 7, part, 0, 0), 0);
        }
        due("PART 0, with six", x.part(3, 7, 0, 31, 0), 7);
        due("PART 0, alone", x.part(3, 7, 0, 31, 0), 1);
        due("PART 7, KNOWN", x.part(3, 7, 7, 31, 0), 1);
    }

    static void p06PortsAreNoMatterOfOthers() {
        Checks.says("(of PART 0: from its port to an OUTER PORT; else these are no matter)");
        BoxBindings x = new BoxBindings();
        lend(x, 0, 0);
        x.part(1, 1, 0, 0, 0);
        for (int n : new int[] {Checks.MIN, -1, 16, 32, Checks.MAX}) {
            due("KNOWN, port " + n, x.part(1, 1, 1, n, 0), 1);
            due("KNOWN, OUTER PORT " + n, x.part(1, 1, 1, 0, n), 1);
            due("HELD, port " + n, x.part(2, 1, 1, n, 0), 0);
            due("HELD, OUTER PORT " + n, x.part(2, 1, 1, 0, n), 0);
        }
        due("KNOWN, an OUTER PORT that is not lent", x.part(1, 1, 7, 0, 9), 1);
    }

    static void p06NoneNotLetIn() {
        Checks.says("NONE: it is PART 0 and not let in.");
        BoxBindings x = new BoxBindings();
        due("not lent", x.part(0, 0, 0, 0, 0), NONE);
        lend(x, 0, 0);
        due("another PART is HELD, not lost", x.part(0, 0, 1, 0, 15), 0);
        x.rule(1, 1);
        due("by FILTER 1", x.part(1, 0, 0, 0, 0), NONE);
        x.rule(1, 2);
        due("by FILTER 2", x.part(0, 1, 0, 1, 0), NONE);
        due("let in", x.part(0, 0, 0, 0, 0), 2);
    }

    static void p06OutsideRemote() {
        Checks.says("OUTSIDE: REMOTE, NAME, PART");
        BoxBindings x = new BoxBindings();
        lend(x, 0, 0);
        for (int part = 0; part <= 1; part++) {
            due("REMOTE 4, the box", x.part(4, 0, part, 0, 0), OUTSIDE);
            for (int n : FAR) {
                due("REMOTE " + n, x.part(n, 0, part, 0, 0), OUTSIDE);
            }
        }
        due("REMOTE goes before the OUTER PORT", x.part(4, 0, 0, 0, 16), OUTSIDE);
        due("count(3)", x.count(3), 0);
        due("count(4)", x.count(4), 0);
    }

    static void p06OutsideName() {
        Checks.says("OUTSIDE: REMOTE, NAME, PART");
        BoxBindings x = new BoxBindings();
        lend(x, 0, 0);
        for (int part = 0; part <= 1; part++) {
            due("NAME 8", x.part(0, 8, part, 0, 0), OUTSIDE);
            for (int n : FAR) {
                due("NAME " + n, x.part(0, n, part, 0, 0), OUTSIDE);
            }
        }
        due("NAME goes before the OUTER PORT", x.part(0, 8, 0, 0, 16), OUTSIDE);
        due("count(3)", x.count(3), 0);
        due("count(4)", x.count(4), 0);
    }

    static void p06OutsidePart() {
        Checks.says("OUTSIDE: REMOTE, NAME, PART");
        BoxBindings x = new BoxBindings();
        lend(x, 0, 0);
        due("PART 8", x.part(0, 0, 8, 0, 0), OUTSIDE);
        for (int n : FAR) {
            due("PART " + n, x.part(0, 0, n, 0, 0), OUTSIDE);
            due("PART " + n + ", OUTER PORT 16", x.part(0, 0, n, 0, 16), OUTSIDE);
        }
        x.part(0, 0, 0, 0, 0);
        due("PART 8 of a KNOWN packet", x.part(0, 0, 8, 0, 0), OUTSIDE);
        due("count(3)", x.count(3), 0);
    }

    static void p06OutsidePortOfPart0() {
        Checks.says("of PART 0 alone: OUTSIDE: the port, UNKNOWN: the OUTER PORT");
        BoxBindings x = new BoxBindings();
        lend(x, 0, 0);
        for (int remote = 0; remote <= 3; remote++) {
            due("port 32 of " + remote, x.part(remote, 0, 0, 32, 0), OUTSIDE);
            due("port 31 of " + remote, x.part(remote, 0, 0, 31, 0), 1);
            due("port 0 of " + remote, x.part(remote, 0, 0, 0, 0), 1);
        }
        for (int n : FAR) {
            due("port " + n, x.part(0, 0, 0, n, 0), OUTSIDE);
            due("port " + n + ", before the OUTER PORT", x.part(0, 0, 0, n, 16), OUTSIDE);
        }
    }

    static void p06UnknownOuterPortOfPart0() {
        Checks.says("of PART 0 alone: OUTSIDE: the port, UNKNOWN: the OUTER PORT");
        BoxBindings x = allLent();
        due("OUTER PORT 16", x.part(0, 0, 0, 0, 16), UNKNOWN);
        due("OUTER PORT 15", x.part(0, 0, 0, 0, 15), 1);
        for (int n : FAR) {
            due("OUTER PORT " + n, x.part(0, 0, 0, 0, n), UNKNOWN);
        }
        due("count(4), as before", x.count(4), 1);
    }

    static void p06FullItWouldHaveToBeHeld() {
        Checks.says("FULL: it would have to be HELD, and 6 are.");
        BoxBindings x = new BoxBindings();
        lend(x, 0, 0);
        x.part(1, 0, 0, 0, 0);
        for (int part = 1; part <= 6; part++) {
            due("the " + part + ".", x.part(0, 0, part, 0, 0), 0);
        }
        due("the 7.", x.part(0, 0, 7, 0, 0), FULL);
        due("the 7., of another NAME", x.part(0, 1, 1, 0, 0), FULL);
        due("the 7., of another REMOTE", x.part(3, 0, 1, 0, 0), FULL);
        due("one that is HELD", x.part(0, 0, 1, 0, 0), 0);
        due("one of a KNOWN packet", x.part(1, 0, 7, 0, 0), 1);
        due("PART 0, let in", x.part(2, 2, 0, 0, 0), 1);
        due("PART 0, not let in", x.part(2, 3, 0, 0, 1), NONE);
        due("OUTSIDE goes before FULL", x.part(0, 0, 8, 0, 0), OUTSIDE);
        due("count(3)", x.count(3), 6);
        due("PART 0 of theirs: the FULL one is not among them", x.part(0, 0, 0, 0, 0), 7);
    }

    static void p06NoLongerFull() {
        Checks.says("FULL: it would have to be HELD, and 6 are.");
        BoxBindings x = new BoxBindings();
        for (int part = 1; part <= 5; part++) {
            x.part(0, 0, part, 0, 0);
        }
        x.tick(1);
        x.part(1, 0, 1, 0, 0);
        due("6 are", x.part(2, 0, 1, 0, 0), FULL);
        x.tick(3);
        due("6 are, at 4", x.part(2, 0, 1, 0, 0), FULL);
        x.tick(1);
        due("one is, at 5", x.part(2, 0, 1, 0, 0), 0);
        due("count(3)", x.count(3), 2);
    }

    // ---- Promise 7

    static void p07From1To100() {
        Checks.says("n ticks go by, 1 to 100");
        BoxBindings x = new BoxBindings();
        int time = 0;
        for (int n = 1; n <= 100; n++) {
            due("tick(" + n + ")", x.tick(n), 0);
            time += n;
            due("count(1)", x.count(1), time);
        }
    }

    static void p07Outside() {
        Checks.says("n ticks go by, 1 to 100: how many BINDINGS lapse. OUTSIDE.");
        BoxBindings x = allLent();
        x.part(0, 0, 1, 0, 0);
        x.part(0, 1, 0, 0, 0);
        due("tick(0)", x.tick(0), OUTSIDE);
        due("tick(101)", x.tick(101), OUTSIDE);
        for (int n : FAR) {
            due("tick(" + n + ")", x.tick(n), OUTSIDE);
        }
        due("count(0)", x.count(0), 16);
        due("count(1)", x.count(1), 0);
        due("count(3)", x.count(3), 1);
        due("count(4)", x.count(4), 1);
        due("soon()", x.soon(), 4);
    }

    static void p07HowManyLapse() {
        Checks.says("how many BINDINGS lapse");
        BoxBindings x = allLent();
        due("none yet", x.tick(3), 0);
        due("all at once", x.tick(1), 16);
        due("none is there", x.tick(100), 0);
        for (int port = 0; port <= 15; port++) {
            x.out(0, port, 0, 0, port < 5 ? FLAG_CLOSE : FLAG_NONE);
        }
        x.in(0, 0, 15, 0);
        due("those that are CLOSING", x.tick(2), 5);
        due("those that are NEW", x.tick(2), 10);
        due("not yet", x.tick(15), 0);
        due("the one that is OPEN", x.tick(1), 1);
    }

    static void p07AllOfOneTick() {
        Checks.says("how many BINDINGS lapse");
        BoxBindings x = new BoxBindings();
        x.out(0, 0, 0, 0, FLAG_CLOSE);
        lend(x, 1, 4);
        lend(x, 2, 8);
        x.in(0, 0, 8, 0);
        due("tick(100), of each kind", x.tick(100), 3);
        due("count(1)", x.count(1), 100);
    }

    static void p07ManyTicksAtOnceAreAsOneAfterTheOther() {
        Checks.says("n ticks go by, 1 to 100");
        for (int n = 1; n <= 100; n++) {
            BoxBindings x = new BoxBindings();
            x.rule(4, 60);
            lend(x, 0, 0);
            due("PART 0, KNOWN", x.part(0, 0, 0, 0, 0), 1);
            due("PART 1 of another, HELD", x.part(0, 1, 1, 0, 0), 0);
            due("tick(" + n + ")", x.tick(n), n < 60 ? 0 : 1);
            due("HELD after " + n, x.count(3), n < 5 ? 1 : 0);
            due("KNOWN after " + n, x.count(4), n < 5 ? 1 : 0);
            due("BINDINGS after " + n, x.count(0), n < 60 ? 1 : 0);
        }
    }

    static void p07DoesNotCountWhatWentBefore() {
        Checks.says("how many BINDINGS lapse");
        BoxBindings x = new BoxBindings();
        lend(x, 0, 0);
        lend(x, 1, 4);
        lend(x, 2, 8);
        x.drop(0);
        due("tick(4), not the dropped one", x.tick(4), 2);
    }

    // ---- Promise 8

    static void p08HowManyThereWere() {
        Checks.says("All BINDINGS of a HOST go: how many there were.");
        BoxBindings all = allLent();
        due("drop(1), it has none", all.drop(1), 0);
        due("drop(0), all", all.drop(0), 16);
        due("drop(0), none is left", all.drop(0), 0);
        due("count(0)", all.count(0), 0);
        due("count(2)", all.count(2), 4);
        for (int host = 0; host <= 3; host++) {
            BoxBindings x = blockForEachHost();
            due("drop(" + host + ")", x.drop(host), 1);
            for (int other = 0; other <= 3; other++) {
                due("block(" + other + ")", x.block(other), other == host ? NONE : other);
            }
            due("tick(4), the others lapse", x.tick(4), 3);
        }
    }

    static void p08OfEachKind() {
        Checks.says("All BINDINGS of a HOST go: how many there were.");
        BoxBindings x = new BoxBindings();
        x.rule(0, 2);
        x.out(3, 31, 0, 0, FLAG_CLOSE);
        x.out(3, 31, 0, 1, FLAG_NONE);
        x.out(3, 31, 4, 15, FLAG_NONE);
        x.in(0, 0, 13, 0);
        x.out(2, 31, 4, 15, FLAG_NONE);
        due("drop(3)", x.drop(3), 3);
        due("count(0)", x.count(0), 1);
    }

    static void p08Unknown() {
        Checks.says("All BINDINGS of a HOST go: how many there were. UNKNOWN.");
        BoxBindings x = blockForEachHost();
        due("drop(4)", x.drop(4), UNKNOWN);
        for (int n : FAR) {
            due("drop(" + n + ")", x.drop(n), UNKNOWN);
        }
        due("drop(-6)", x.drop(-6), UNKNOWN);
        due("count(0)", x.count(0), 4);
    }

    // ---- Promise 9

    static void p09HostAndPort() {
        Checks.says("Of the BINDING of an OUTER PORT: 32 times HOST, and port, added (what = 0)");
        BoxBindings x = new BoxBindings();
        lend(x, 0, 0);
        lend(x, 3, 31);
        due("of(0, 0), the least", x.of(0, 0), 0);
        due("of(15, 0), the most", x.of(15, 0), 127);
    }

    static void p09WhatItIs() {
        Checks.says("what it IS (1)");
        BoxBindings x = new BoxBindings();
        lend(x, 0, 15);
        due("of(15, 1)", x.of(15, 1), NEW);
        x.in(0, 0, 15, 0);
        due("of(15, 1)", x.of(15, 1), OPEN);
        x.in(0, 0, 15, 2);
        due("of(15, 1)", x.of(15, 1), CLOSING);
    }

    static void p09InHowManyTicksItLapses() {
        Checks.says("in how many ticks it lapses (2)");
        BoxBindings x = new BoxBindings();
        x.rule(3, 60);
        lend(x, 0, 0);
        for (int left = 60; left >= 1; left--) {
            due("of(0, 2)", x.of(0, 2), left);
            due("tick(1)", x.tick(1), left == 1 ? 1 : 0);
        }
        due("of(0, 2)", x.of(0, 2), NONE);
    }

    static void p09HowManyAreSent() {
        Checks.says("how many ports of REMOTES are SENT (3)");
        BoxBindings x = new BoxBindings();
        lend(x, 0, 0);
        due("of(0, 3), the first", x.of(0, 3), 1);
        x.out(0, 0, 0, 0, 0);
        due("of(0, 3), the same again", x.of(0, 3), 1);
        x.out(0, 0, 0, 31, 0);
        x.out(0, 0, 3, 31, 0);
        x.out(0, 0, 4, 15, 0);
        due("of(0, 3)", x.of(0, 3), 4);
        x.out(0, 0, 4, 16, 0);
        due("of(0, 3), what was refused is not", x.of(0, 3), 4);
        lend(x, 0, 1);
        due("of(0, 3), what goes by another is not", x.of(0, 3), 4);
    }

    static void p09RemoteAndItsPort() {
        Checks.says("the REMOTE it is for (4; NONE: all), the port of that (5; NONE: all)");
        int[][] due = {{NONE, NONE}, {4, NONE}, {4, 15}};
        for (int mapping = 0; mapping <= 2; mapping++) {
            BoxBindings x = new BoxBindings();
            x.rule(0, mapping);
            x.out(0, 0, 4, 15, 0);
            due("of(0, 4) by MAPPING " + mapping, x.of(0, 4), due[mapping][0]);
            due("of(0, 5) by MAPPING " + mapping, x.of(0, 5), due[mapping][1]);
        }
        BoxBindings least = new BoxBindings();
        least.rule(0, 2);
        least.out(0, 0, 0, 0, 0);
        due("of(0, 4), REMOTE 0", least.of(0, 4), 0);
        due("of(0, 5), port 0", least.of(0, 5), 0);
    }

    static void p09NoneNotLent() {
        Checks.says("NONE: it is not lent.");
        BoxBindings x = new BoxBindings();
        lend(x, 0, 7);
        for (int what = 0; what <= 5; what++) {
            due("of(6, " + what + ")", x.of(6, what), NONE);
            due("of(8, " + what + ")", x.of(8, what), NONE);
            due("of(0, " + what + ")", x.of(0, what), NONE);
            due("of(15, " + what + ")", x.of(15, what), NONE);
        }
        x.tick(4);
        for (int what = 0; what <= 5; what++) {
            due("of(7, " + what + "), lapsed", x.of(7, what), NONE);
        }
    }

    static void p09Unknown() {
        Checks.says("NONE: it is not lent. UNKNOWN; OUTSIDE.");
        BoxBindings x = allLent();
        due("of(16, 0)", x.of(16, 0), UNKNOWN);
        for (int n : FAR) {
            due("of(" + n + ", 0)", x.of(n, 0), UNKNOWN);
        }
        due("UNKNOWN goes before OUTSIDE", x.of(16, 6), UNKNOWN);
        due("UNKNOWN goes before OUTSIDE", x.of(-1, -1), UNKNOWN);
    }

    static void p09Outside() {
        Checks.says("NONE: it is not lent. UNKNOWN; OUTSIDE.");
        BoxBindings x = new BoxBindings();
        lend(x, 0, 0);
        for (int outer = 0; outer <= 1; outer++) {
            due("of(" + outer + ", 6)", x.of(outer, 6), OUTSIDE);
            for (int n : FAR) {
                due("of(" + outer + ", " + n + ")", x.of(outer, n), OUTSIDE);
            }
        }
    }

    // ---- Promise 10

    static void p10WhetherSent() {
        Checks.says("Whether a port of a REMOTE (0 to 4) is SENT by the BINDING of an OUTER PORT: 1, 0");
        BoxBindings x = new BoxBindings();
        for (int remote = 0; remote <= 4; remote++) {
            int last = remote == 4 ? 15 : 31;
            lend(x, 1, 9);
            due("sent, not yet", x.sent(9, remote, last), 0);
            x.out(1, 9, remote, last, 0);
            due("sent", x.sent(9, remote, last), 1);
            due("sent, one before", x.sent(9, remote, last - 1), 0);
        }
        lend(x, 1, 10);
        due("sent, by another BINDING", x.sent(10, 4, 15), 0);
    }

    static void p10NoneNotLent() {
        Checks.says("NONE: it is not lent.");
        BoxBindings x = new BoxBindings();
        lend(x, 0, 7);
        for (int outer = 0; outer <= 15; outer++) {
            due("sent(" + outer + ", 0, 0)", x.sent(outer, 0, 0), outer == 7 ? 1 : NONE);
        }
        x.drop(0);
        due("sent(7, 0, 0), gone", x.sent(7, 0, 0), NONE);
    }

    static void p10UnknownOuterPort() {
        Checks.says("UNKNOWN: the OUTER PORT; OUTSIDE: REMOTE, its port.");
        BoxBindings x = allLent();
        due("sent(16, 0, 0)", x.sent(16, 0, 0), UNKNOWN);
        for (int n : FAR) {
            due("sent(" + n + ", 0, 0)", x.sent(n, 0, 0), UNKNOWN);
        }
        due("UNKNOWN goes before OUTSIDE", x.sent(16, 5, 32), UNKNOWN);
    }

    static void p10OutsideRemoteAndItsPort() {
        Checks.says("UNKNOWN: the OUTER PORT; OUTSIDE: REMOTE, its port.");
        BoxBindings x = new BoxBindings();
        lend(x, 0, 0);
        for (int outer = 0; outer <= 1; outer++) {
            due("REMOTE 5", x.sent(outer, 5, 0), OUTSIDE);
            due("port 32 of 3", x.sent(outer, 3, 32), OUTSIDE);
            due("port 16 of 4", x.sent(outer, 4, 16), OUTSIDE);
            for (int n : FAR) {
                due("REMOTE " + n, x.sent(outer, n, 0), OUTSIDE);
                due("port " + n, x.sent(outer, 0, n), OUTSIDE);
                due("port " + n + " of 4", x.sent(outer, 4, n), OUTSIDE);
            }
        }
    }

    // ---- Promise 11

    static void p11ByWhichOutWouldGo() {
        Checks.says("The OUTER PORT of the BINDING by which OUT would go");
        for (int mapping = 0; mapping <= 2; mapping++) {
            BoxBindings x = new BoxBindings();
            x.rule(0, mapping);
            x.out(3, 31, 4, 15, 0);
            due("find, the same", x.find(3, 31, 4, 15), 15);
            due("find, another port of it", x.find(3, 31, 4, 14), mapping < 2 ? 15 : NONE);
            due("find, another REMOTE", x.find(3, 31, 3, 15), mapping < 1 ? 15 : NONE);
            due("find, another port inside", x.find(3, 15, 4, 15), NONE);
            due("find, another HOST", x.find(2, 31, 4, 15), NONE);
            due("of(15, 3), find sends nothing", x.of(15, 3), 1);
            due("count(0), find makes none", x.count(0), 1);
        }
        BoxBindings least = new BoxBindings();
        lend(least, 0, 0);
        due("find, the least", least.find(0, 0, 0, 0), 0);
    }

    static void p11NoneThereIsNone() {
        Checks.says("NONE: there is none.");
        BoxBindings x = new BoxBindings();
        due("find", x.find(0, 0, 0, 0), NONE);
        lend(x, 0, 0);
        x.tick(3);
        due("find, still", x.find(0, 0, 0, 0), 0);
        x.tick(1);
        due("find, lapsed", x.find(0, 0, 0, 0), NONE);
    }

    static void p11UnknownHost() {
        Checks.says("UNKNOWN: HOST; OUTSIDE: port, REMOTE, its port.");
        BoxBindings x = allLent();
        due("HOST 4", x.find(4, 0, 0, 0), UNKNOWN);
        for (int n : FAR) {
            due("HOST " + n, x.find(n, 0, 0, 0), UNKNOWN);
        }
        due("UNKNOWN goes before OUTSIDE", x.find(4, 32, 5, 32), UNKNOWN);
    }

    static void p11OutsideThree() {
        Checks.says("UNKNOWN: HOST; OUTSIDE: port, REMOTE, its port.");
        BoxBindings x = allLent();
        due("port 32", x.find(0, 32, 0, 0), OUTSIDE);
        due("REMOTE 5", x.find(0, 0, 5, 0), OUTSIDE);
        due("port 32 of 3", x.find(0, 0, 3, 32), OUTSIDE);
        due("port 16 of 4", x.find(0, 0, 4, 16), OUTSIDE);
        for (int n : FAR) {
            due("port " + n, x.find(0, n, 0, 0), OUTSIDE);
            due("REMOTE " + n, x.find(0, 0, n, 0), OUTSIDE);
            due("port " + n + " of 0", x.find(0, 0, 0, n), OUTSIDE);
            due("port " + n + " of 4", x.find(0, 0, 4, n), OUTSIDE);
        }
    }

    // ---- Promise 12

    static void p12ChosenAsOutThenDoes() {
        Checks.says("CHOSEN for a port of a HOST");
        for (int parity = 0; parity <= 1; parity++) {
            BoxBindings x = new BoxBindings();
            x.rule(2, parity);
            for (int i = 0; i < 32; i++) {
                int host = i * 7 % 4;
                int port = i * 11 % 32;
                int next = x.next(host, port);
                due("next changes nothing", x.next(host, port), next);
                due("out", lend(x, host, port), next == NONE ? NO : next);
            }
        }
    }

    static void p12WhateverHasABinding() {
        Checks.says("CHOSEN for a port of a HOST");
        BoxBindings x = new BoxBindings();
        lend(x, 0, 5);
        due("next of a port that has one", x.next(0, 5), 4);
        due("out of a port that has one", lend(x, 0, 5), 5);
    }

    static void p12NoneRunOut() {
        Checks.says("NONE: the ports have run out for it.");
        BoxBindings x = allLent();
        for (int host = 0; host <= 3; host++) {
            due("next(" + host + ", 0)", x.next(host, 0), NONE);
            due("next(" + host + ", 31)", x.next(host, 31), NONE);
        }
        x.tick(4);
        due("next(3, 31), all have lapsed", x.next(3, 31), 15);
    }

    static void p12UnknownHost() {
        Checks.says("UNKNOWN: HOST; OUTSIDE: port.");
        BoxBindings x = new BoxBindings();
        due("HOST 4", x.next(4, 0), UNKNOWN);
        for (int n : FAR) {
            due("HOST " + n, x.next(n, 0), UNKNOWN);
        }
        due("UNKNOWN goes before OUTSIDE", x.next(4, 32), UNKNOWN);
        due("HOST -6", x.next(-6, 0), UNKNOWN);
    }

    static void p12OutsidePort() {
        Checks.says("UNKNOWN: HOST; OUTSIDE: port.");
        BoxBindings x = new BoxBindings();
        due("port 32", x.next(0, 32), OUTSIDE);
        for (int n : FAR) {
            due("port " + n, x.next(0, n), OUTSIDE);
        }
        BoxBindings full = allLent();
        due("OUTSIDE goes before NONE", full.next(1, 32), OUTSIDE);
    }

    // ---- Promise 13

    static void p13WhyNotLetIn() {
        Checks.says("Why IN would not be let in (1, 2); 0: it would.");
        for (int filter = 0; filter <= 2; filter++) {
            BoxBindings x = new BoxBindings();
            x.rule(1, filter);
            x.out(3, 31, 3, 31, 0);
            due("not lent", x.why(3, 31, 14), 1);
            due("that port", x.why(3, 31, 15), 0);
            due("another port of it", x.why(3, 0, 15), filter == 2 ? 2 : 0);
            due("another REMOTE", x.why(0, 31, 15), filter == 0 ? 0 : 2);
            due("the box", x.why(4, 15, 15), filter == 0 ? 0 : 2);
            due("of(15, 1), why lets nothing in", x.of(15, 1), NEW);
        }
    }

    static void p13ChangesNothing() {
        Checks.says("Why IN would not be let in (1, 2); 0: it would.");
        BoxBindings x = new BoxBindings();
        lend(x, 0, 0);
        x.tick(3);
        due("why", x.why(0, 0, 0), 0);
        due("of(0, 1)", x.of(0, 1), NEW);
        due("of(0, 2)", x.of(0, 2), 1);
    }

    static void p13OutsideRemoteAndItsPort() {
        Checks.says("OUTSIDE: REMOTE, its port; UNKNOWN: the OUTER PORT.");
        BoxBindings x = allLent();
        due("REMOTE 5", x.why(5, 0, 0), OUTSIDE);
        due("port 32 of 3", x.why(3, 32, 0), OUTSIDE);
        due("port 16 of 4", x.why(4, 16, 0), OUTSIDE);
        for (int n : FAR) {
            due("REMOTE " + n, x.why(n, 0, 0), OUTSIDE);
            due("port " + n + " of 0", x.why(0, n, 0), OUTSIDE);
            due("port " + n + " of 4", x.why(4, n, 0), OUTSIDE);
        }
        due("REMOTE goes before UNKNOWN", x.why(5, 0, 16), OUTSIDE);
        due("its port goes before UNKNOWN", x.why(4, 16, 16), OUTSIDE);
    }

    static void p13UnknownOuterPort() {
        Checks.says("OUTSIDE: REMOTE, its port; UNKNOWN: the OUTER PORT.");
        BoxBindings x = allLent();
        due("OUTER PORT 16", x.why(0, 0, 16), UNKNOWN);
        for (int n : FAR) {
            due("OUTER PORT " + n, x.why(0, 0, n), UNKNOWN);
        }
    }

    // ---- Promise 14

    static void p14HostOfABlock() {
        Checks.says("The HOST whose a BLOCK is");
        BoxBindings x = new BoxBindings();
        for (int block = 0; block <= 3; block++) {
            due("out", lend(x, 3 - block, 4 * block + 3), 4 * block + 3);
            due("block(" + block + ")", x.block(block), 3 - block);
        }
        BoxBindings one = allLent();
        for (int block = 0; block <= 3; block++) {
            due("block(" + block + "), all of HOST 0", one.block(block), 0);
        }
    }

    static void p14NoneNobodys() {
        Checks.says("NONE: nobody's.");
        BoxBindings x = new BoxBindings();
        for (int block = 0; block <= 3; block++) {
            due("block(" + block + ")", x.block(block), NONE);
        }
        lend(x, 0, 4);
        due("block(0)", x.block(0), NONE);
        due("block(1)", x.block(1), 0);
        due("block(2)", x.block(2), NONE);
    }

    static void p14Unknown() {
        Checks.says("NONE: nobody's. UNKNOWN.");
        BoxBindings x = allLent();
        due("block(4)", x.block(4), UNKNOWN);
        for (int n : FAR) {
            due("block(" + n + ")", x.block(n), UNKNOWN);
        }
    }

    // ---- Promise 15

    static void p15HowManyBindings() {
        Checks.says("Of a HOST: how many BINDINGS (what = 0)");
        BoxBindings x = new BoxBindings();
        due("host(0, 0), none", x.host(0, 0), 0);
        for (int port = 0; port <= 15; port++) {
            lend(x, 3, port);
            due("host(3, 0)", x.host(3, 0), port + 1);
        }
        for (int host = 0; host <= 2; host++) {
            due("host(" + host + ", 0)", x.host(host, 0), 0);
        }
    }

    static void p15ItsBlocks() {
        Checks.says("its BLOCKS, a set (1: bit b for BLOCK b)");
        BoxBindings all = allLent();
        due("host(0, 1), all", all.host(0, 1), 15);
        due("host(1, 1), none", all.host(1, 1), 0);
        BoxBindings each = blockForEachHost();
        for (int host = 0; host <= 3; host++) {
            due("host(" + host + ", 1)", each.host(host, 1), 1 << host);
        }
        BoxBindings two = new BoxBindings();
        for (int port = 12; port <= 15; port++) {
            lend(two, 0, port);
        }
        lend(two, 0, 0);
        due("host(0, 1), the first and the last", two.host(0, 1), 9);
    }

    static void p15HowManyMore() {
        Checks.says("how many more could be made for it, one after the other, of even ports alone (2), of odd ones alone (3)");
        for (int parity = 0; parity <= 1; parity++) {
            BoxBindings x = new BoxBindings();
            x.rule(2, parity);
            for (int host = 0; host <= 3; host++) {
                due("host(" + host + ", 2), all", x.host(host, 2), parity == 0 ? 16 : 8);
                due("host(" + host + ", 3), all", x.host(host, 3), parity == 0 ? 16 : 8);
            }
        }
        BoxBindings full = allLent();
        for (int host = 0; host <= 3; host++) {
            due("host(" + host + ", 2), none", full.host(host, 2), 0);
            due("host(" + host + ", 3), none", full.host(host, 3), 0);
        }
        due("host changes nothing", full.count(0), 16);
    }

    static void p15HowManyMoreOfOwnAndNobodysBlocks() {
        Checks.says("how many more could be made for it, one after the other, of even ports alone (2), of odd ones alone (3)");
        BoxBindings x = new BoxBindings();
        lend(x, 0, 0);
        lend(x, 1, 5);
        lend(x, 1, 7);
        due("host(0, 2)", x.host(0, 2), 11);
        due("host(0, 3)", x.host(0, 3), 11);
        due("host(1, 2)", x.host(1, 2), 10);
        due("host(1, 3)", x.host(1, 3), 10);
        due("host(2, 2)", x.host(2, 2), 8);
        x.rule(2, 1);
        due("host(0, 2) by PARITY 1", x.host(0, 2), 5);
        due("host(0, 3) by PARITY 1", x.host(0, 3), 6);
        due("host(1, 2) by PARITY 1", x.host(1, 2), 6);
        due("host(1, 3) by PARITY 1", x.host(1, 3), 4);
        due("host(3, 2) by PARITY 1", x.host(3, 2), 4);
        due("host(3, 3) by PARITY 1", x.host(3, 3), 4);
    }

    static void p15NoMoreThoughNotAllAreLent() {
        Checks.says("how many more could be made for it");
        BoxBindings x = new BoxBindings();
        for (int port = 0; port <= 3; port++) {
            lend(x, 1, port);
        }
        lend(x, 1, 4);
        lend(x, 2, 8);
        lend(x, 3, 12);
        due("host(0, 2)", x.host(0, 2), 0);
        due("host(0, 3)", x.host(0, 3), 0);
        due("host(1, 2)", x.host(1, 2), 3);
        due("host(3, 3)", x.host(3, 3), 3);
        x.rule(2, 1);
        due("host(1, 2) by PARITY 1", x.host(1, 2), 1);
        due("host(1, 3) by PARITY 1", x.host(1, 3), 2);
    }

    /** What is foretold is made, from ports that have no BINDING yet, and no more. */
    static void p15AsManyAreMade() {
        Checks.says("how many more could be made for it, one after the other, of even ports alone (2), of odd ones alone (3)");
        for (int parity = 0; parity <= 1; parity++) {
            for (int odd = 0; odd <= 1; odd++) {
                for (int host = 0; host <= 2; host++) {
                    BoxBindings x = new BoxBindings();
                    x.rule(2, parity);
                    lend(x, 0, 30);
                    lend(x, 1, 21);
                    lend(x, 1, 30);
                    int foretold = x.host(host, 2 + odd);
                    int before = x.count(0);
                    for (int port = odd; port <= 31; port += 2) {
                        lend(x, host, port);
                    }
                    due("host(" + host + ", " + (2 + odd) + ") by PARITY " + parity, foretold, x.count(0) - before);
                    due("host, none is left", x.host(host, 2 + odd), 0);
                }
            }
        }
    }

    static void p15Unknown() {
        Checks.says("of odd ones alone (3). UNKNOWN; OUTSIDE.");
        BoxBindings x = new BoxBindings();
        for (int what = 0; what <= 3; what++) {
            due("host(4, " + what + ")", x.host(4, what), UNKNOWN);
            for (int n : FAR) {
                due("host(" + n + ", " + what + ")", x.host(n, what), UNKNOWN);
            }
        }
        due("UNKNOWN goes before OUTSIDE", x.host(4, 4), UNKNOWN);
        due("HOST -6", x.host(-6, 1), UNKNOWN);
    }

    static void p15Outside() {
        Checks.says("of odd ones alone (3). UNKNOWN; OUTSIDE.");
        BoxBindings x = new BoxBindings();
        for (int host = 0; host <= 3; host++) {
            due("host(" + host + ", 4)", x.host(host, 4), OUTSIDE);
            for (int n : FAR) {
                due("host(" + host + ", " + n + ")", x.host(host, n), OUTSIDE);
            }
        }
    }

    // ---- Promise 16

    static void p16AtTheLeast() {
        Checks.says("In how many ticks, at the least, any BINDING lapses, if nothing goes by any");
        BoxBindings x = new BoxBindings();
        x.rule(3, 60);
        lend(x, 0, 0);
        due("soon()", x.soon(), 60);
        x.tick(59);
        due("soon(), the last tick", x.soon(), 1);
        lend(x, 3, 15);
        due("soon(), the first one yet", x.soon(), 1);
        due("tick(1)", x.tick(1), 1);
        due("soon(), the other", x.soon(), 59);
        x.out(1, 8, 0, 0, FLAG_CLOSE);
        due("soon(), one in the middle", x.soon(), 2);
    }

    static void p16AsTickThenDoes() {
        Checks.says("In how many ticks, at the least, any BINDING lapses, if nothing goes by any");
        BoxBindings x = new BoxBindings();
        lend(x, 0, 0);
        lend(x, 1, 4);
        x.in(0, 0, 4, 0);
        x.out(2, 8, 0, 0, FLAG_CLOSE);
        int left = 3;
        while (left > 0) {
            int soon = x.soon();
            if (soon > 1) {
                due("tick, one less", x.tick(soon - 1), 0);
            }
            due("tick(1)", x.tick(1), 1);
            left--;
        }
        due("count(1)", x.count(1), 20);
    }

    static void p16None() {
        Checks.says("NONE: there is none.");
        BoxBindings x = new BoxBindings();
        due("soon(), new", x.soon(), NONE);
        lend(x, 0, 0);
        x.tick(4);
        due("soon(), lapsed", x.soon(), NONE);
        lend(x, 0, 0);
        x.drop(0);
        due("soon(), dropped", x.soon(), NONE);
        x.part(0, 0, 1, 0, 0);
        due("soon(), what is HELD is no matter", x.soon(), NONE);
    }

    // ---- Promises 17 and 18

    static void p17Outside() {
        Checks.says("All but IMAGES is kept in an IMAGE (0, 1), in place of what was kept there: 1. OUTSIDE.");
        BoxBindings x = new BoxBindings();
        due("image(2)", x.image(2), OUTSIDE);
        for (int n : FAR) {
            due("image(" + n + ")", x.image(n), OUTSIDE);
        }
        due("count(5)", x.count(5), 0);
        due("image(0)", x.image(0), 1);
        due("image(1)", x.image(1), 1);
        due("count(5)", x.count(5), 3);
    }

    static void p17InPlaceOfWhatWasKept() {
        Checks.says("in place of what was kept there: 1");
        BoxBindings x = new BoxBindings();
        x.tick(1);
        due("image(0)", x.image(0), 1);
        x.tick(1);
        due("image(1)", x.image(1), 1);
        x.tick(1);
        due("image(0), again", x.image(0), 1);
        x.tick(1);
        x.restore(1);
        due("count(1), the other as it was", x.count(1), 2);
        x.restore(0);
        due("count(1), the later one", x.count(1), 3);
    }

    static void p17WhatIsKeptDoesNotMove() {
        Checks.says("All but IMAGES is kept in an IMAGE (0, 1)");
        BoxBindings x = allLent();
        x.image(0);
        x.drop(0);
        x.rule(0, 2);
        x.rule(4, 60);
        x.tick(100);
        x.part(0, 0, 1, 0, 0);
        x.restore(0);
        due("count(0)", x.count(0), 16);
        due("count(1)", x.count(1), 0);
        due("count(3)", x.count(3), 0);
        due("count(10)", x.count(10), 0);
        due("count(14)", x.count(14), 20);
        due("soon()", x.soon(), 4);
    }

    static void p18RestoresNothingToNothing() {
        Checks.says("All but IMAGES is as it was when it was kept; the IMAGE stays: 1.");
        BoxBindings x = new BoxBindings();
        x.image(1);
        lend(x, 0, 0);
        x.part(0, 0, 1, 0, 0);
        x.part(0, 1, 0, 0, 0);
        x.tick(1);
        x.rule(2, 1);
        due("restore(1)", x.restore(1), 1);
        for (int what = 0; what <= 4; what++) {
            due("count(" + what + ")", x.count(what), what == 2 ? 4 : 0);
        }
        due("count(12)", x.count(12), 0);
    }

    static void p18ImagesStay() {
        Checks.says("All but IMAGES is as it was when it was kept; the IMAGE stays: 1.");
        BoxBindings x = new BoxBindings();
        x.image(0);
        x.tick(7);
        x.image(1);
        due("restore(0), from before the second was kept", x.restore(0), 1);
        due("count(5), both are kept", x.count(5), 3);
        for (int again = 0; again < 3; again++) {
            lend(x, 0, again);
            x.tick(2);
            due("restore(1)", x.restore(1), 1);
            due("count(1)", x.count(1), 7);
            due("count(0)", x.count(0), 0);
        }
        due("restore(0)", x.restore(0), 1);
        due("count(1)", x.count(1), 0);
    }

    static void p18WhatIsDoneLaterIsNotInTheImage() {
        Checks.says("the IMAGE stays");
        BoxBindings x = new BoxBindings();
        lend(x, 0, 0);
        x.image(0);
        x.restore(0);
        x.out(0, 0, 3, 31, FLAG_CLOSE);
        x.part(0, 0, 0, 0, 0);
        x.part(0, 1, 1, 0, 0);
        x.restore(0);
        due("of(0, 1)", x.of(0, 1), NEW);
        due("of(0, 2)", x.of(0, 2), 4);
        due("of(0, 3)", x.of(0, 3), 1);
        due("sent(0, 3, 31)", x.sent(0, 3, 31), 0);
        due("count(3)", x.count(3), 0);
        due("count(4)", x.count(4), 0);
    }

    static void p18TimesAreAsTheyWere() {
        Checks.says("All but IMAGES is as it was when it was kept");
        BoxBindings x = new BoxBindings();
        x.tick(100);
        lend(x, 0, 0);
        x.in(0, 0, 0, 0);
        x.part(0, 0, 0, 0, 0);
        x.part(0, 1, 1, 0, 0);
        x.tick(3);
        x.image(0);
        x.tick(100);
        due("count(0)", x.count(0), 0);
        x.restore(0);
        due("count(1)", x.count(1), 103);
        due("of(0, 2)", x.of(0, 2), 17);
        x.tick(1);
        due("count(3), at 4", x.count(3), 1);
        due("count(4), at 4", x.count(4), 1);
        x.tick(1);
        due("count(3), at 5", x.count(3), 0);
        due("count(4), at 5", x.count(4), 0);
        due("tick(14)", x.tick(14), 0);
        due("tick(1)", x.tick(1), 1);
    }

    /** All OUTER PORTS, places of HELD ones and packets are used anew after they were kept. */
    static void p18EachOneIsAsItWas() {
        Checks.says("All but IMAGES is as it was when it was kept");
        BoxBindings x = new BoxBindings();
        x.rule(0, 2);
        x.tick(100);
        for (int port = 0; port <= 15; port++) {
            x.out(0, port, port % 5, port, FLAG_NONE);
            x.in(port % 5, port, port, port % 3 == 0 ? FLAG_CLOSE : FLAG_NONE);
        }
        fillParts(x);
        x.tick(1);
        x.image(0);
        x.drop(0);
        x.tick(5);
        for (int port = 0; port <= 15; port++) {
            x.out(3, port, (port + 1) % 5, 15 - port, FLAG_NONE);
        }
        fillParts(x);
        x.restore(0);
        for (int outer = 0; outer <= 15; outer++) {
            boolean closing = outer % 3 == 0;
            int[] due = {outer, closing ? CLOSING : OPEN, closing ? 1 : 19, 1, outer % 5, outer};
            for (int what = 0; what <= 5; what++) {
                due("of(" + outer + ", " + what + ")", x.of(outer, what), due[what]);
            }
            due("sent(" + outer + ", ..)", x.sent(outer, outer % 5, outer), 1);
        }
        due("count(3)", x.count(3), 6);
        due("count(4)", x.count(4), 4);
        x.tick(3);
        due("count(3), at 4", x.count(3), 6);
        due("count(4), at 4, their BINDINGS are there", x.count(4), 4);
        x.tick(1);
        due("count(3), at 5", x.count(3), 0);
        due("count(4), at 5", x.count(4), 0);
    }

    /** Six that are HELD, and four packets that are KNOWN, by OUTER PORTS that do not lapse at once. */
    private static void fillParts(BoxBindings x) {
        for (int part = 1; part <= 6; part++) {
            x.part(part % 4, 0, part, 0, 0);
        }
        int[] outers = {1, 7, 10, 14};
        for (int remote = 0; remote <= 3; remote++) {
            due("part 0", x.part(remote, 7, 0, 0, outers[remote]), 1);
        }
    }

    static void p18Outside() {
        Checks.says("OUTSIDE; STATE: nothing was kept in it.");
        BoxBindings x = new BoxBindings();
        for (int kept = 0; kept <= 1; kept++) {
            due("restore(2)", x.restore(2), OUTSIDE);
            for (int n : FAR) {
                due("restore(" + n + ")", x.restore(n), OUTSIDE);
            }
            x.image(0);
            x.image(1);
        }
    }

    static void p18StateNothingWasKept() {
        Checks.says("STATE: nothing was kept in it.");
        for (int k = 0; k <= 1; k++) {
            BoxBindings x = new BoxBindings();
            lend(x, 0, 0);
            x.tick(1);
            due("restore(" + k + ")", x.restore(k), STATE);
            due("image of the other", x.image(1 - k), 1);
            x.tick(1);
            due("restore(" + k + ")", x.restore(k), STATE);
            due("count(1), nothing is changed", x.count(1), 2);
            due("restore of the other", x.restore(1 - k), 1);
            due("restore(" + k + "), still not", x.restore(k), STATE);
            due("count(5)", x.count(5), 2 - k);
        }
    }

    static void p18AllKinds() {
        Checks.says("All but IMAGES is as it was when it was kept");
        BoxBindings x = new BoxBindings();
        x.rule(0, 2);
        x.rule(1, 2);
        x.rule(2, 1);
        x.rule(3, 60);
        x.rule(4, 59);
        x.rule(5, 58);
        x.out(3, 31, 4, 15, FLAG_CLOSE);
        x.out(0, 0, 3, 31, FLAG_NONE);
        x.in(3, 31, 0, 0);
        x.image(1);
        x.rule(0, 0);
        x.rule(1, 0);
        x.rule(2, 0);
        x.rule(3, 1);
        x.rule(4, 1);
        x.rule(5, 1);
        x.tick(1);
        x.restore(1);
        int[] rules = {2, 2, 1, 60, 59, 58};
        for (int what = 0; what <= 5; what++) {
            due("count(" + (10 + what) + ")", x.count(10 + what), rules[what]);
        }
        int[] closing = {127, CLOSING, 58, 1, 4, 15};
        int[] open = {0, OPEN, 59, 1, 3, 31};
        for (int what = 0; what <= 5; what++) {
            due("of(15, " + what + ")", x.of(15, what), closing[what]);
            due("of(0, " + what + ")", x.of(0, what), open[what]);
        }
        due("sent(15, 4, 15)", x.sent(15, 4, 15), 1);
        due("sent(0, 3, 31)", x.sent(0, 3, 31), 1);
    }

    // ---- Promise 19

    static void p19Bindings() {
        Checks.says("BINDINGS (what = 0)");
        due("count(0), none", new BoxBindings().count(0), 0);
        due("count(0), all", allLent().count(0), 16);
        due("count(0)", blockForEachHost().count(0), 4);
    }

    static void p19Time() {
        Checks.says("TIME (1)");
        BoxBindings x = new BoxBindings();
        due("count(1)", x.count(1), 0);
        x.tick(1);
        due("count(1)", x.count(1), 1);
        x.tick(0);
        x.tick(101);
        due("count(1), refused ticks do not go by", x.count(1), 1);
    }

    static void p19NobodysBlocks() {
        Checks.says("BLOCKS that are nobody's (2)");
        BoxBindings x = new BoxBindings();
        due("count(2), all", x.count(2), 4);
        for (int host = 0; host <= 3; host++) {
            lend(x, host, 4 * host);
            due("count(2)", x.count(2), 3 - host);
        }
        x.drop(2);
        due("count(2)", x.count(2), 1);
        due("count(2), all of one HOST", allLent().count(2), 0);
    }

    static void p19Held() {
        Checks.says("PARTS that are HELD (3)");
        BoxBindings x = new BoxBindings();
        due("count(3), none", x.count(3), 0);
        for (int part = 1; part <= 6; part++) {
            x.part(0, 0, part, 0, 0);
            due("count(3)", x.count(3), part);
        }
        x.part(0, 0, 7, 0, 0);
        due("count(3), the 7. is FULL", x.count(3), 6);
    }

    static void p19Known() {
        Checks.says("packets that are KNOWN (4)");
        BoxBindings x = new BoxBindings();
        lend(x, 0, 0);
        due("count(4), none", x.count(4), 0);
        for (int packet = 0; packet < 32; packet++) {
            x.part(packet / 8, packet % 8, 0, 0, 0);
        }
        due("count(4), all", x.count(4), 32);
        x.part(3, 7, 0, 0, 0);
        due("count(4), the same again", x.count(4), 32);
        x.drop(0);
        due("count(4), none", x.count(4), 0);
    }

    static void p19WhichImages() {
        Checks.says("which IMAGES are kept (5: 1 the first, 2 the second, added)");
        BoxBindings first = new BoxBindings();
        due("count(5), none", first.count(5), 0);
        first.image(0);
        due("count(5), the first", first.count(5), 1);
        first.image(0);
        due("count(5), the first again", first.count(5), 1);
        BoxBindings second = new BoxBindings();
        second.image(1);
        due("count(5), the second", second.count(5), 2);
        second.image(0);
        due("count(5), both", second.count(5), 3);
        second.image(2);
        due("count(5), a refused one is not", second.count(5), 3);
    }

    static void p19Rules() {
        Checks.says("RULES (10 to 15)");
        BoxBindings x = new BoxBindings();
        int[] first = {0, 0, 0, 4, 20, 2};
        int[] v = {1, 2, 1, 31, 32, 33};
        for (int what = 0; what <= 5; what++) {
            due("count(" + (10 + what) + ")", x.count(10 + what), first[what]);
            x.rule(what, v[what]);
        }
        for (int what = 0; what <= 5; what++) {
            due("count(" + (10 + what) + ")", x.count(10 + what), v[what]);
        }
    }

    static void p19Outside() {
        Checks.says("RULES (10 to 15). OUTSIDE.");
        BoxBindings x = allLent();
        for (int what = -20; what <= 30; what++) {
            if (what < 0 || what > 5 && what < 10 || what > 15) {
                due("count(" + what + ")", x.count(what), OUTSIDE);
            }
        }
        due("count(MIN)", x.count(Checks.MIN), OUTSIDE);
        due("count(MAX)", x.count(Checks.MAX), OUTSIDE);
    }

    static void constants() {
        Checks.says("UNKNOWN = -1, OUTSIDE = -2, STATE = -3, FULL = -4, NO = -5, NONE = -6");
        due("UNKNOWN", BoxBindings.UNKNOWN, -1);
        due("OUTSIDE", BoxBindings.OUTSIDE, -2);
        due("STATE", BoxBindings.STATE, -3);
        due("FULL", BoxBindings.FULL, -4);
        due("NO", BoxBindings.NO, -5);
        due("NONE", BoxBindings.NONE, -6);
    }

    public static void main(String[] args) {
        Checks.runAll(PromiseEdgesTest.class);
    }
}
