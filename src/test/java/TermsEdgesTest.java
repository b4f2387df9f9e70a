/** The edges that "What it is" and "Terms" of the document name: a test for each sentence. */
public final class TermsEdgesTest {
    private static final int UNKNOWN = Checks.UNKNOWN, OUTSIDE = Checks.OUTSIDE, FULL = Checks.FULL;
    private static final int NO = Checks.NO, NONE = Checks.NONE;
    private static final int NEW = 0, OPEN = 1, CLOSING = 2;
    private static final int FLAG_NONE = 0, FLAG_OPEN = 1, FLAG_CLOSE = 2;

    private static void due(String call, int got, int want) {
        Checks.due(call, got, want);
    }

    /** A new BINDING that is NEW, by a port of REMOTE 0. */
    private static int lend(BoxBindings x, int host, int port) {
        return x.out(host, port, 0, 0, FLAG_NONE);
    }

    /** An object whose OUTER PORT 0 is lent to port 0 of HOST 0, by a BINDING that is as told. */
    private static BoxBindings withBinding(int is) {
        BoxBindings x = new BoxBindings();
        makeBinding(x, is);
        return x;
    }

    private static void makeBinding(BoxBindings x, int is) {
        due("out", x.out(0, 0, 0, 0, is == CLOSING ? FLAG_CLOSE : FLAG_NONE), 0);
        if (is == OPEN) {
            due("in", x.in(0, 0, 0, FLAG_NONE), 0);
        }
        due("of(0, 1)", x.of(0, 1), is);
    }

    // ---- What it is

    static void object512CallsHold() {
        Checks.says("An object is used for at most 512 calls after it has been made");
        BoxBindings ticked = new BoxBindings();
        for (int call = 1; call <= 511; call++) {
            due("tick(100), call " + call, ticked.tick(100), 0);
        }
        due("count(1), call 512", ticked.count(1), 51100);

        BoxBindings late = new BoxBindings();
        late.rule(3, 60);
        for (int call = 2; call <= 510; call++) {
            late.tick(100);
        }
        due("out, call 511", late.out(3, 31, 4, 15, 0), 15);
        due("of(15, 2), call 512", late.of(15, 2), 60);

        BoxBindings restored = new BoxBindings();
        restored.out(3, 31, 4, 15, 0);
        restored.image(1);
        for (int call = 3; call <= 510; call++) {
            restored.tick(100);
        }
        due("restore(1), call 511", restored.restore(1), 1);
        due("of(15, 2), call 512", restored.of(15, 2), 4);
    }

    static void objectEveryCallMayMakeOrRefuse() {
        Checks.says("An object is used for at most 512 calls after it has been made");
        BoxBindings x = new BoxBindings();
        for (int call = 1; call <= 511; call++) {
            x.part(call % 4, call % 8, 1 + call % 7, 0, 0);
        }
        due("part, call 512", x.part(0, 0, 1, 0, 0), FULL);
    }

    // ---- Terms, ahead of 1

    static void noneOnlyWhereNoRefusalFits() {
        Checks.says("NONE -6 is told only where no refusal fits.");
        BoxBindings x = new BoxBindings();
        due("in, not lent", x.in(0, 0, 0, 0), NONE);
        due("in, not lent, flag 3", x.in(0, 0, 0, 3), OUTSIDE);
        due("in, not lent, flag -1", x.in(0, 0, 0, -1), OUTSIDE);
        due("part 0, not lent", x.part(0, 0, 0, 0, 0), NONE);
        due("part 0, not lent, port 32", x.part(0, 0, 0, 32, 0), OUTSIDE);
        due("of, not lent", x.of(0, 0), NONE);
        due("of, not lent, what 6", x.of(0, 6), OUTSIDE);
        due("of, not lent, what -1", x.of(0, -1), OUTSIDE);
        due("sent, not lent", x.sent(0, 0, 0), NONE);
        due("sent, not lent, REMOTE 5", x.sent(0, 5, 0), OUTSIDE);
        due("sent, not lent, port 32", x.sent(0, 0, 32), OUTSIDE);
        due("find, none there", x.find(0, 0, 0, 0), NONE);
        due("find, none there, port 32", x.find(0, 0, 0, 32), OUTSIDE);
        for (int port = 0; port < 16; port++) {
            lend(x, 0, port);
        }
        due("next, run out", x.next(1, 0), NONE);
        due("next, run out, port 32", x.next(1, 32), OUTSIDE);
        due("turn, NO goes before NONE", x.turn(1, 0, 0, 0), NO);
    }

    static void toldAsThingsAreThen() {
        Checks.says("Whatever is told is told as things are then.");
        BoxBindings x = new BoxBindings();
        lend(x, 0, 5);
        x.tick(3);
        due("of(5, 2)", x.of(5, 2), 1);
        due("soon()", x.soon(), 1);
        x.rule(3, 10);
        due("of(5, 2), by another LIFE", x.of(5, 2), 7);
        due("soon(), by another LIFE", x.soon(), 7);
        due("why by FILTER 0", x.why(1, 0, 5), 0);
        x.rule(1, 1);
        due("why by FILTER 1", x.why(1, 0, 5), 2);
        due("next by PARITY 0", x.next(0, 13), 4);
        due("host(0, 2) by PARITY 0", x.host(0, 2), 15);
        x.rule(2, 1);
        due("next by PARITY 1", x.next(0, 13), 7);
        due("host(0, 2) by PARITY 1", x.host(0, 2), 8);
        x.tick(7);
        due("of(5, 0), lapsed", x.of(5, 0), NONE);
        due("sent(5, 0, 0), lapsed", x.sent(5, 0, 0), NONE);
        due("find, lapsed", x.find(0, 5, 0, 0), NONE);
        due("why, lapsed", x.why(0, 0, 5), 1);
        due("next, lapsed", x.next(0, 13), 13);
        due("block(1), lapsed", x.block(1), NONE);
        due("host(0, 0), lapsed", x.host(0, 0), 0);
        due("host(0, 1), lapsed", x.host(0, 1), 0);
        due("soon(), lapsed", x.soon(), NONE);
        due("count(0), lapsed", x.count(0), 0);
        due("count(2), lapsed", x.count(2), 4);
    }

    // ---- Terms, 1

    static void hostsAre0To3() {
        Checks.says("HOSTS inside are 0 to 3, each with ports 0 to 31");
        for (int host = 0; host <= 3; host++) {
            for (int port = 0; port <= 31; port++) {
                BoxBindings x = new BoxBindings();
                due("out(" + host + ", " + port + ", ..)", lend(x, host, port), port % 16);
                due("of, its HOST and port", x.of(port % 16, 0), 32 * host + port);
            }
        }
        BoxBindings x = new BoxBindings();
        due("HOST 4", lend(x, 4, 0), UNKNOWN);
        due("HOST -1", lend(x, -1, 0), UNKNOWN);
        due("port 32", lend(x, 0, 32), OUTSIDE);
        due("port -1", lend(x, 0, -1), OUTSIDE);
        due("port 31 of HOST 0", lend(x, 0, 31), 15);
        due("port 0 of HOST 1 is not port 32 of HOST 0", x.find(1, 0, 0, 0), NONE);
    }

    static void remotesAre0To3AndTheBox() {
        Checks.says("REMOTES outside are 0 to 3, each with ports 0 to 31, and 4, the box itself,"
            + " whose ports are the OUTER PORTS, 0 to 15.");
        BoxBindings x = new BoxBindings();
        for (int remote = 0; remote <= 4; remote++) {
            int last = remote == 4 ? 15 : 31;
            due("out to port 0 of REMOTE " + remote, x.out(0, 0, remote, 0, 0), 0);
            due("out to the last port of REMOTE " + remote, x.out(0, 0, remote, last, 0), 0);
            due("out to one more", x.out(0, 0, remote, last + 1, 0), OUTSIDE);
            due("out to port -1", x.out(0, 0, remote, -1, 0), OUTSIDE);
            due("in from port 0 of REMOTE " + remote, x.in(remote, 0, 0, 0), 0);
            due("in from the last port of REMOTE " + remote, x.in(remote, last, 0, 0), 0);
            due("in from one more", x.in(remote, last + 1, 0, 0), OUTSIDE);
            due("in from port -1", x.in(remote, -1, 0, 0), OUTSIDE);
            due("sent(0, " + remote + ", last)", x.sent(0, remote, last), 1);
            due("sent, one more", x.sent(0, remote, last + 1), OUTSIDE);
            due("find, the last", x.find(0, 0, remote, last), 0);
            due("find, one more", x.find(0, 0, remote, last + 1), OUTSIDE);
            due("why, the last", x.why(remote, last, 0), 0);
            due("why, one more", x.why(remote, last + 1, 0), OUTSIDE);
        }
        due("REMOTE 5", x.out(0, 0, 5, 0, 0), OUTSIDE);
        due("REMOTE -1", x.out(0, 0, -1, 0, 0), OUTSIDE);
        due("of(0, 3)", x.of(0, 3), 10);
    }

    static void outerPortsAre0To15() {
        Checks.says("whose ports are the OUTER PORTS, 0 to 15");
        BoxBindings x = new BoxBindings();
        for (int port = 0; port <= 15; port++) {
            due("out of port " + port, lend(x, 0, port), port);
        }
        for (int outer = 0; outer <= 15; outer++) {
            due("in to " + outer, x.in(0, 0, outer, 0), outer);
        }
        due("in to 16", x.in(0, 0, 16, 0), UNKNOWN);
        due("in to -1", x.in(0, 0, -1, 0), UNKNOWN);
        due("of(16, 0)", x.of(16, 0), UNKNOWN);
        due("of(-1, 0)", x.of(-1, 0), UNKNOWN);
    }

    static void blockHasFourOuterPorts() {
        Checks.says("BLOCK b, 0 to 3, has OUTER PORTS 4 b to 4 b and 3, added.");
        for (int outer = 0; outer <= 15; outer++) {
            BoxBindings x = new BoxBindings();
            lend(x, 2, outer);
            for (int block = 0; block <= 3; block++) {
                boolean has = 4 * block <= outer && outer <= 4 * block + 3;
                due("block(" + block + ") with OUTER PORT " + outer, x.block(block), has ? 2 : NONE);
            }
            due("block(4)", x.block(4), UNKNOWN);
            due("block(-1)", x.block(-1), UNKNOWN);
        }
    }

    static void timeGoesFrom0On() {
        Checks.says("TIME goes by ticks, from 0 on.");
        BoxBindings x = new BoxBindings();
        due("count(1)", x.count(1), 0);
        lend(x, 0, 0);
        x.in(0, 0, 0, 0);
        x.part(0, 0, 1, 0, 0);
        x.rule(0, 1);
        x.drop(0);
        x.image(0);
        due("count(1), only ticks move it", x.count(1), 0);
        x.tick(1);
        due("count(1)", x.count(1), 1);
        x.tick(100);
        due("count(1)", x.count(1), 101);
    }

    private static void dueRange(int what, int least, int most, int first) {
        BoxBindings x = new BoxBindings();
        due("at first", x.count(10 + what), first);
        due("too small", x.rule(what, least - 1), OUTSIDE);
        due("too large", x.rule(what, most + 1), OUTSIDE);
        due("much too small", x.rule(what, Checks.MIN), OUTSIDE);
        due("much too large", x.rule(what, Checks.MAX), OUTSIDE);
        due("still as at first", x.count(10 + what), first);
        int was = first;
        for (int v = least; v <= most; v++) {
            due("rule(" + what + ", " + v + ")", x.rule(what, v), was);
            due("count(" + (10 + what) + ")", x.count(10 + what), v);
            was = v;
        }
        for (int other = 0; other < 6; other++) {
            if (other != what) {
                due("another RULE", x.count(10 + other), new int[] {0, 0, 0, 4, 20, 2}[other]);
            }
        }
    }

    static void ruleMapping0To2() {
        Checks.says("RULES: 0 MAPPING, 0 to 2 (0 at first)");
        dueRange(0, 0, 2, 0);
    }

    static void ruleFilter0To2() {
        Checks.says("1 FILTER, 0 to 2 (0)");
        dueRange(1, 0, 2, 0);
    }

    static void ruleParity0Or1() {
        Checks.says("2 PARITY, 0 or 1 (0)");
        dueRange(2, 0, 1, 0);
    }

    static void ruleLifeOfNew1To60() {
        Checks.says("3, 4, 5 LIFE of what is NEW, OPEN, CLOSING, 1 to 60 (4, 20 and 2).");
        dueRange(3, 1, 60, 4);
        due("of(0, 2)", withBinding(NEW).of(0, 2), 4);
    }

    static void ruleLifeOfOpen1To60() {
        Checks.says("3, 4, 5 LIFE of what is NEW, OPEN, CLOSING, 1 to 60 (4, 20 and 2).");
        dueRange(4, 1, 60, 20);
        due("of(0, 2)", withBinding(OPEN).of(0, 2), 20);
    }

    static void ruleLifeOfClosing1To60() {
        Checks.says("3, 4, 5 LIFE of what is NEW, OPEN, CLOSING, 1 to 60 (4, 20 and 2).");
        dueRange(5, 1, 60, 2);
        due("of(0, 2)", withBinding(CLOSING).of(0, 2), 2);
    }

    static void bindingByMapping0ForAll() {
        Checks.says("by MAPPING 0 for all REMOTES and their ports");
        BoxBindings x = new BoxBindings();
        due("out", x.out(1, 9, 0, 0, 0), 9);
        for (int remote = 0; remote <= 4; remote++) {
            due("find, port 0 of " + remote, x.find(1, 9, remote, 0), 9);
            due("find, port 15 of " + remote, x.find(1, 9, remote, 15), 9);
            due("out to port 15 of " + remote, x.out(1, 9, remote, 15, 0), 9);
        }
        due("count(0)", x.count(0), 1);
        due("of(9, 4), all", x.of(9, 4), NONE);
        due("of(9, 5), all", x.of(9, 5), NONE);
    }

    static void bindingByMapping1ForOneRemote() {
        Checks.says("by MAPPING 1 for one REMOTE and all its ports");
        BoxBindings x = new BoxBindings();
        x.rule(0, 1);
        for (int remote = 0; remote <= 4; remote++) {
            int outer = x.out(1, 0, remote, 0, 0);
            due("out to REMOTE " + remote, outer, remote);
            due("out to its port 15", x.out(1, 0, remote, 15, 0), remote);
            due("find, its port 1", x.find(1, 0, remote, 1), remote);
            due("of, its REMOTE", x.of(outer, 4), remote);
            due("of, its port: all", x.of(outer, 5), NONE);
        }
        due("find, the last port of REMOTE 3", x.find(1, 0, 3, 31), 3);
        due("count(0)", x.count(0), 5);
    }

    static void bindingByMapping2ForOnePort() {
        Checks.says("by MAPPING 2 for one port of one REMOTE");
        BoxBindings x = new BoxBindings();
        x.rule(0, 2);
        int made = 0;
        for (int remote = 0; remote <= 4; remote++) {
            for (int remotePort : new int[] {0, 15}) {
                due("find, not yet", x.find(1, 0, remote, remotePort), NONE);
                due("out", x.out(1, 0, remote, remotePort, 0), made);
                due("out again", x.out(1, 0, remote, remotePort, 0), made);
                due("of, its REMOTE", x.of(made, 4), remote);
                due("of, its port", x.of(made, 5), remotePort);
                made++;
            }
            due("find, another port", x.find(1, 0, remote, 1), NONE);
        }
        due("count(0)", x.count(0), 10);
    }

    static void bindingIsOfOneHostAndPort() {
        Checks.says("A BINDING lends an OUTER PORT to a port of a HOST");
        BoxBindings x = new BoxBindings();
        due("out of port 0", lend(x, 0, 0), 0);
        due("out of port 16, of the same LIKE", lend(x, 0, 16), 1);
        due("out of port 0 of another HOST", lend(x, 1, 0), 4);
        due("of(0, 0)", x.of(0, 0), 0);
        due("of(1, 0)", x.of(1, 0), 16);
        due("of(4, 0)", x.of(4, 0), 32);
    }

    static void sentIsASet() {
        Checks.says("it has a set of SENT, those ports of REMOTES to which something was sent by it");
        BoxBindings x = new BoxBindings();
        x.out(0, 0, 2, 31, 0);
        x.out(0, 0, 2, 31, 0);
        due("of(0, 3), twice the same", x.of(0, 3), 1);
        x.in(3, 9, 0, 0);
        due("of(0, 3), what came in is not SENT", x.of(0, 3), 1);
        due("sent(0, 3, 9)", x.sent(0, 3, 9), 0);
        for (int remote = 0; remote <= 4; remote++) {
            for (int remotePort = 0; remotePort <= (remote == 4 ? 15 : 31); remotePort++) {
                x.out(0, 0, remote, remotePort, 0);
            }
        }
        due("of(0, 3), all of them", x.of(0, 3), 4 * 32 + 16);
        for (int remote = 0; remote <= 4; remote++) {
            for (int remotePort = 0; remotePort <= (remote == 4 ? 15 : 31); remotePort++) {
                due("sent(0, " + remote + ", " + remotePort + ")", x.sent(0, remote, remotePort), 1);
            }
        }
    }

    static void sentOneAtATime() {
        Checks.says("it has a set of SENT, those ports of REMOTES to which something was sent by it");
        for (int remote = 0; remote <= 4; remote++) {
            for (int remotePort : new int[] {0, 1, 14, 15, 16, 30, 31}) {
                if (remote == 4 && remotePort > 15) {
                    continue;
                }
                BoxBindings x = new BoxBindings();
                lend(x, 0, 1);
                x.out(3, 15, remote, remotePort, 0);
                for (int r = 0; r <= 4; r++) {
                    for (int p = 0; p <= (r == 4 ? 15 : 31); p++) {
                        due("sent(15, " + r + ", " + p + ")", x.sent(15, r, p), r == remote && p == remotePort ? 1 : 0);
                    }
                }
                due("of(15, 3)", x.of(15, 3), 1);
            }
        }
    }

    static void usedIsWhenSomethingWentLast() {
        Checks.says("USED, the TIME at which something went by it last");
        BoxBindings x = withBinding(OPEN);
        x.tick(19);
        due("of(0, 2)", x.of(0, 2), 1);
        x.out(0, 0, 1, 0, 0);
        due("of(0, 2), by OUT", x.of(0, 2), 20);
        x.tick(19);
        x.in(3, 0, 0, 0);
        due("of(0, 2), by IN", x.of(0, 2), 20);
        x.tick(19);
        x.part(2, 0, 0, 0, 0);
        due("of(0, 2), by PART 0", x.of(0, 2), 20);
        x.tick(19);
        x.turn(0, 0, 9, 0);
        due("of(0, 2), by the OUT of a turn", x.of(0, 2), 20);
        x.tick(19);
        x.turn(1, 4, 0, 0);
        due("of(0, 2), by the IN of a turn", x.of(0, 2), 20);
        x.tick(19);
        x.rule(1, 2);
        due("in, not let in", x.in(3, 31, 0, 0), NONE);
        due("of(0, 2), not by what is not let in", x.of(0, 2), 1);
        due("tick(1)", x.tick(1), 1);
    }

    static void usedIsOfEachBindingByItself() {
        Checks.says("USED, the TIME at which something went by it last");
        BoxBindings x = new BoxBindings();
        x.rule(3, 60);
        x.rule(4, 60);
        for (int port = 0; port <= 15; port++) {
            lend(x, 0, port);
        }
        for (int outer = 0; outer <= 15; outer++) {
            x.tick(1);
            if (outer % 2 == 0) {
                x.in(0, 0, outer, 0);
            } else {
                x.out(0, outer, 0, 0, 0);
            }
        }
        for (int outer = 0; outer <= 15; outer++) {
            due("of(" + outer + ", 1)", x.of(outer, 1), outer % 2 == 0 ? OPEN : NEW);
            due("of(" + outer + ", 2)", x.of(outer, 2), 60 - 15 + outer);
        }
    }

    static void noOuterPortIsLentTwice() {
        Checks.says("No OUTER PORT is lent twice.");
        for (int parity = 0; parity <= 1; parity++) {
            BoxBindings x = new BoxBindings();
            x.rule(2, parity);
            boolean[] lent = new boolean[16];
            int made = 0;
            for (int port = 0; port <= 31; port++) {
                for (int host = 0; host <= 3; host++) {
                    int outer = lend(x, host, port);
                    if (outer != NO) {
                        Checks.holds("OUTER PORT " + outer + " was not lent yet", outer >= 0 && !lent[outer]);
                        lent[outer] = true;
                        due("of, whose it is", x.of(outer, 0), 32 * host + port);
                        made++;
                    }
                }
            }
            due("made, each HOST has a BLOCK", made, 16);
            due("count(0)", x.count(0), 16);
        }
    }

    private static void dueLapse(int is, int life) {
        BoxBindings x = new BoxBindings();
        x.rule(3 + is, life);
        x.tick(7);
        makeBinding(x, is);
        due("of(0, 2) by LIFE " + life, x.of(0, 2), life);
        due("soon() by LIFE " + life, x.soon(), life);
        for (int gone = 1; gone < life; gone++) {
            due("tick(1), not yet", x.tick(1), 0);
        }
        due("of(0, 0), still there", x.of(0, 0), 0);
        due("of(0, 2), the last tick", x.of(0, 2), 1);
        due("tick(1), it lapses", x.tick(1), 1);
        due("of(0, 0), there no more", x.of(0, 0), NONE);
        due("count(0)", x.count(0), 0);
    }

    static void lapsesAsSoonAsItsLifeIsOver() {
        Checks.says("A BINDING lapses (it is there no more) as soon as TIME is USED and LIFE of what it IS, added, or later.");
        for (int life : new int[] {1, 2, 59, 60}) {
            dueLapse(NEW, life);
            dueLapse(OPEN, life);
            dueLapse(CLOSING, life);
        }
    }

    static void lapsesAtFirstLives() {
        Checks.says("A BINDING lapses (it is there no more) as soon as TIME is USED and LIFE of what it IS, added, or later.");
        int[] lives = {4, 20, 2};
        for (int is = NEW; is <= CLOSING; is++) {
            BoxBindings x = withBinding(is);
            due("tick, one less", x.tick(lives[is] - 1), 0);
            due("of(0, 1)", x.of(0, 1), is);
            due("tick(1)", x.tick(1), 1);
            due("of(0, 1)", x.of(0, 1), NONE);
        }
    }

    static void lapsesLaterToo() {
        Checks.says("as soon as TIME is USED and LIFE of what it IS, added, or later.");
        for (int is = NEW; is <= CLOSING; is++) {
            BoxBindings over = withBinding(is);
            due("tick(100), far over", over.tick(100), 1);
            due("of(0, 0)", over.of(0, 0), NONE);
            BoxBindings one = withBinding(is);
            due("tick, one over", one.tick(one.of(0, 2) + 1), 1);
            due("of(0, 0)", one.of(0, 0), NONE);
        }
    }

    private static void dueShorterLife(int is, int life, boolean there) {
        BoxBindings x = new BoxBindings();
        x.rule(3 + is, 60);
        makeBinding(x, is);
        x.tick(10);
        due("rule, a shorter LIFE " + life, x.rule(3 + is, life), 60);
        due("of(0, 0)", x.of(0, 0), there ? 0 : NONE);
        due("count(0)", x.count(0), there ? 1 : 0);
        due("soon()", x.soon(), there ? life - 10 : NONE);
        x.rule(3 + is, 60);
        due("of(0, 0), by the longer LIFE again", x.of(0, 0), there ? 0 : NONE);
        x.rule(3 + is, life);
        due("tick(1)", x.tick(1), there && life == 11 ? 1 : 0);
    }

    static void lapsesByAShorterLife() {
        Checks.says("A BINDING lapses (it is there no more) as soon as TIME is USED and LIFE of what it IS, added, or later.");
        for (int is = NEW; is <= CLOSING; is++) {
            dueShorterLife(is, 12, true);
            dueShorterLife(is, 11, true);
            dueShorterLife(is, 10, false);
            dueShorterLife(is, 9, false);
            dueShorterLife(is, 1, false);
        }
    }

    static void lifeOfWhatItIsNotOfAnother() {
        Checks.says("USED and LIFE of what it IS, added");
        for (int is = NEW; is <= CLOSING; is++) {
            BoxBindings x = withBinding(is);
            int left = x.of(0, 2);
            x.tick(1);
            for (int other = NEW; other <= CLOSING; other++) {
                if (other != is) {
                    x.rule(3 + other, 1);
                }
            }
            due("of(0, 2)", x.of(0, 2), left - 1);
        }
    }

    static void blockIsAHostsWhileItHasOne() {
        Checks.says("A BLOCK is a HOST's while a BINDING of that HOST has an OUTER PORT of it, else nobody's.");
        for (int block = 0; block <= 3; block++) {
            BoxBindings x = new BoxBindings();
            due("block, of nobody yet", x.block(block), NONE);
            lend(x, 3, 4 * block);
            x.tick(1);
            lend(x, 3, 4 * block + 3);
            due("block", x.block(block), 3);
            due("tick(3), the first lapses", x.tick(3), 1);
            due("block, it has one yet", x.block(block), 3);
            due("tick(1), the last lapses", x.tick(1), 1);
            due("block, nobody's", x.block(block), NONE);
            due("count(2)", x.count(2), 4);
            lend(x, 1, 4 * block);
            due("block, another's", x.block(block), 1);
            x.drop(1);
            due("block, nobody's", x.block(block), NONE);
            lend(x, 0, 4 * block);
            due("block, of HOST 0", x.block(block), 0);
            x.rule(0, 1);
            due("block, nobody's", x.block(block), NONE);
        }
    }

    // ---- Terms, 2

    static void itIsNewOpenOrClosing() {
        Checks.says("It IS NEW (0), OPEN (1) or CLOSING (2)");
        due("of(0, 1), NEW", withBinding(NEW).of(0, 1), 0);
        due("of(0, 1), OPEN", withBinding(OPEN).of(0, 1), 1);
        due("of(0, 1), CLOSING", withBinding(CLOSING).of(0, 1), 2);
    }

    static void outFlagsAre0To2() {
        Checks.says("with a flag: 0 none, 1 OPEN, 2 CLOSE");
        BoxBindings x = new BoxBindings();
        due("flag -1", x.out(0, 0, 0, 0, -1), OUTSIDE);
        due("flag 3", x.out(0, 0, 0, 0, 3), OUTSIDE);
        due("count(0)", x.count(0), 0);
        due("flag 0", x.out(0, 0, 0, 0, 0), 0);
        due("of(0, 1)", x.of(0, 1), NEW);
        due("flag 1", x.out(0, 1, 0, 0, 1), 1);
        due("of(1, 1)", x.of(1, 1), NEW);
        due("flag 2", x.out(0, 2, 0, 0, 2), 2);
        due("of(2, 1)", x.of(2, 1), CLOSING);
    }

    static void outGoesByTheBindingThatIsThere() {
        Checks.says("If there is a BINDING for it, it goes by that; else one is made");
        BoxBindings x = new BoxBindings();
        for (int port = 0; port <= 15; port++) {
            due("out", lend(x, 0, port), port);
        }
        for (int port = 0; port <= 15; port++) {
            due("out, all are lent", x.out(0, port, 3, 31, 0), port);
        }
        due("count(0)", x.count(0), 16);
        due("out of a port that has none", lend(x, 0, 16), NO);
        x.tick(3);
        x.out(0, 7, 0, 0, 0);
        due("tick(1)", x.tick(1), 15);
        due("out, by the one that is left", x.out(0, 7, 1, 0, 0), 7);
        due("out, one is made", lend(x, 0, 16), 4);
    }

    static void outMadeIsNewAndNothingIsSentYet() {
        Checks.says("else one is made: it IS NEW, and nothing is SENT yet");
        for (int is = NEW; is <= CLOSING; is++) {
            BoxBindings x = withBinding(is);
            x.out(0, 0, 3, 31, is == CLOSING ? FLAG_CLOSE : FLAG_NONE);
            x.out(0, 0, 4, 15, is == CLOSING ? FLAG_CLOSE : FLAG_NONE);
            x.tick(20);
            due("count(0)", x.count(0), 0);
            due("out, the same OUTER PORT anew", x.out(1, 16, 2, 7, 0), 0);
            due("of(0, 0)", x.of(0, 0), 48);
            due("of(0, 1)", x.of(0, 1), NEW);
            due("of(0, 3)", x.of(0, 3), 1);
            due("sent(0, 0, 0)", x.sent(0, 0, 0), 0);
            due("sent(0, 3, 31)", x.sent(0, 3, 31), 0);
            due("sent(0, 4, 15)", x.sent(0, 4, 15), 0);
            due("sent(0, 2, 7)", x.sent(0, 2, 7), 1);
        }
    }

    static void outThenSentAndUsed() {
        Checks.says("Then that port of the REMOTE is SENT, USED is TIME");
        BoxBindings x = new BoxBindings();
        lend(x, 0, 0);
        x.tick(3);
        due("out by the one that is there", x.out(0, 0, 3, 31, 0), 0);
        due("sent(0, 3, 31)", x.sent(0, 3, 31), 1);
        due("sent(0, 0, 0)", x.sent(0, 0, 0), 1);
        due("of(0, 2)", x.of(0, 2), 4);
        x.tick(3);
        due("out that is made", x.out(0, 1, 4, 0, 0), 1);
        due("sent(1, 4, 0)", x.sent(1, 4, 0), 1);
        due("of(1, 2)", x.of(1, 2), 4);
        due("of(0, 2)", x.of(0, 2), 1);
    }

    static void outByCloseIsClosing() {
        Checks.says("by CLOSE the BINDING IS CLOSING");
        for (int is = NEW; is <= CLOSING; is++) {
            BoxBindings x = withBinding(is);
            x.tick(1);
            x.out(0, 0, 0, 0, FLAG_CLOSE);
            due("of(0, 1)", x.of(0, 1), CLOSING);
            due("of(0, 2)", x.of(0, 2), 2);
        }
        BoxBindings made = new BoxBindings();
        made.out(0, 0, 0, 0, FLAG_CLOSE);
        due("of(0, 1), made by CLOSE", made.of(0, 1), CLOSING);
    }

    static void outByOpenIsNewIfItWasClosing() {
        Checks.says("by OPEN, if it was CLOSING, NEW");
        int[] after = {NEW, OPEN, NEW};
        for (int is = NEW; is <= CLOSING; is++) {
            BoxBindings x = withBinding(is);
            x.out(0, 0, 0, 0, FLAG_OPEN);
            due("of(0, 1), by OPEN", x.of(0, 1), after[is]);
            BoxBindings y = withBinding(is);
            y.out(0, 0, 0, 0, FLAG_NONE);
            due("of(0, 1), by no flag", y.of(0, 1), is);
        }
    }

    static void likeWrapsAround() {
        Checks.says("LIKE is what the port leaves over by 16.");
        BoxBindings x = new BoxBindings();
        int[] ports = {0, 1, 14, 15, 16, 17, 30, 31};
        int[] likes = {0, 1, 14, 15, 0, 1, 14, 15};
        for (int parity = 0; parity <= 1; parity++) {
            x.rule(2, parity);
            for (int i = 0; i < ports.length; i++) {
                due("next(0, " + ports[i] + ")", x.next(0, ports[i]), likes[i]);
            }
        }
        due("out of port 31", lend(x, 0, 31), 15);
        due("out of port 15", lend(x, 0, 15), 13);
    }

    static void fitsIfNotLent() {
        Checks.says("Of OUTER PORTS only those FIT that are not lent");
        BoxBindings x = new BoxBindings();
        for (int made = 0; made < 16; made++) {
            due("next", x.next(0, 31), made == 0 ? 15 : made <= 3 ? 11 + made : made - 4);
            lend(x, 0, made == 0 ? 15 : made <= 3 ? 11 + made : made - 4);
        }
        due("next, none FITS", x.next(0, 31), NONE);
    }

    static void fitsByParity1() {
        Checks.says("by PARITY 1, are even if the port is, odd if it is");
        BoxBindings x = new BoxBindings();
        x.rule(2, 1);
        int[] evens = {0, 2, 4, 6, 8, 10, 12, 14};
        for (int i = 0; i < 8; i++) {
            due("out of an even port", lend(x, 0, 16 * (i % 2) + 2 * (i / 2)), evens[i]);
        }
        due("next of an even port, run out", x.next(0, 30), NONE);
        due("out of an even port, run out", lend(x, 0, 30), NO);
        for (int i = 0; i < 8; i++) {
            due("out of an odd port", lend(x, 0, 16 * (i % 2) + 2 * (i / 2) + 1), oddInTurn(i));
        }
        due("next of an odd port, run out", x.next(0, 31), NONE);
        due("count(0)", x.count(0), 16);
    }

    /** All BLOCKS are of the HOST, so LIKE if it is not lent, else the least odd one that is not. */
    private static int oddInTurn(int i) {
        return new int[] {1, 3, 5, 7, 9, 11, 13, 15}[i];
    }

    static void fitsByParity0WhateverItIs() {
        Checks.says("by PARITY 1, are even if the port is, odd if it is");
        BoxBindings x = new BoxBindings();
        for (int i = 0; i < 16; i++) {
            Checks.holds("an even port gets one by PARITY 0", lend(x, 0, 2 * i) >= 0);
        }
        due("count(0)", x.count(0), 16);
    }

    static void chosenLikeOfAnOwnBlock() {
        Checks.says("If LIKE FITS and is of a BLOCK of that HOST: LIKE");
        BoxBindings x = new BoxBindings();
        lend(x, 0, 4);
        due("next(0, 7), not the least", x.next(0, 7), 7);
        due("next(0, 23), not the least", x.next(0, 23), 7);
        due("next(0, 5)", x.next(0, 5), 5);
        x.rule(2, 1);
        due("next(0, 7) by PARITY 1", x.next(0, 7), 7);
        due("next(0, 6) by PARITY 1", x.next(0, 6), 6);
    }

    static void chosenLeastThatFitsOfAllOwnBlocks() {
        Checks.says("else the least that FITS of all BLOCKS of that HOST");
        BoxBindings x = new BoxBindings();
        x.out(0, 12, 0, 0, FLAG_CLOSE);
        lend(x, 0, 13);
        lend(x, 0, 14);
        lend(x, 0, 15);
        due("out, the BLOCK of LIKE is nobody's", lend(x, 0, 4), 4);
        due("next, LIKE is lent", x.next(0, 28), 5);
        x.tick(2);
        due("host(0, 1)", x.host(0, 1), 10);
        due("next, LIKE FITS", x.next(0, 28), 12);
        due("next, LIKE is lent: the least of both BLOCKS", x.next(0, 13), 5);
        due("next, LIKE of nobody's BLOCK", x.next(0, 0), 5);
        due("next, LIKE of nobody's BLOCK", x.next(0, 9), 5);
        x.rule(2, 1);
        due("next of an even port by PARITY 1", x.next(0, 0), 6);
        due("next of an odd port by PARITY 1", x.next(0, 1), 5);
    }

    static void chosenLeastThatFitsMayBeOfALaterBlock() {
        Checks.says("else the least that FITS of all BLOCKS of that HOST");
        BoxBindings x = new BoxBindings();
        x.rule(2, 1);
        due("out", lend(x, 0, 5), 5);
        due("out", lend(x, 0, 7), 7);
        due("out", lend(x, 0, 13), 13);
        due("host(0, 1)", x.host(0, 1), 10);
        due("next of an odd port, the first BLOCK has none", x.next(0, 1), 15);
        due("next of an even port", x.next(0, 0), 4);
        due("next of an even port, LIKE", x.next(0, 14), 14);
    }

    static void chosenBlockOfLikeIfNobodys() {
        Checks.says("else, if BLOCKS are nobody's, one of them is chosen, that of LIKE, if it is nobody's");
        BoxBindings x = new BoxBindings();
        for (int port = 4; port <= 7; port++) {
            lend(x, 0, port);
        }
        lend(x, 1, 0);
        due("next, the own BLOCK is full", x.next(0, 13), 13);
        due("next, the own BLOCK is full", x.next(0, 27), 11);
        due("next, the own BLOCK is full", x.next(0, 8), 8);
        due("next of a HOST without BLOCKS", x.next(2, 15), 15);
        x.rule(2, 1);
        due("next by PARITY 1", x.next(2, 15), 15);
        due("next by PARITY 1", x.next(2, 14), 14);
    }

    static void chosenElseTheLeastBlock() {
        Checks.says("that of LIKE, if it is nobody's, else the least: of it LIKE, if it is of it, else the least that FITS.");
        BoxBindings x = new BoxBindings();
        lend(x, 1, 0);
        lend(x, 2, 8);
        due("next, LIKE of another's BLOCK", x.next(0, 0), 4);
        due("next, LIKE of another's BLOCK", x.next(0, 11), 4);
        due("next, LIKE of nobody's BLOCK", x.next(0, 13), 13);
        due("next, LIKE of nobody's BLOCK", x.next(0, 6), 6);
        x.rule(2, 1);
        due("next by PARITY 1", x.next(0, 11), 5);
        due("next by PARITY 1", x.next(0, 10), 4);
        lend(x, 3, 4);
        due("next, one BLOCK is left", x.next(0, 0), 12);
        due("next, one BLOCK is left", x.next(0, 1), 13);
        due("next, LIKE of it", x.next(0, 15), 15);
        due("next, LIKE of it", x.next(0, 14), 14);
    }

    static void chosenOwnBlockIsFull() {
        Checks.says("that of LIKE, if it is nobody's, else the least: of it LIKE, if it is of it, else the least that FITS.");
        BoxBindings x = new BoxBindings();
        for (int port = 0; port <= 3; port++) {
            lend(x, 0, port);
        }
        due("next, LIKE is lent to it already", x.next(0, 18), 4);
        lend(x, 1, 5);
        due("next, LIKE is lent to it already", x.next(0, 18), 8);
        x.rule(2, 1);
        due("next of an odd port", x.next(0, 19), 9);
        due("next of an even port", x.next(0, 18), 8);
    }

    static void chosenElseRunOut() {
        Checks.says("Else the ports have run out for it.");
        BoxBindings x = new BoxBindings();
        for (int port = 0; port <= 3; port++) {
            lend(x, 1, port);
        }
        lend(x, 1, 12);
        lend(x, 2, 4);
        lend(x, 3, 8);
        due("count(0), many are not lent", x.count(0), 7);
        due("count(2)", x.count(2), 0);
        for (int port : new int[] {0, 1, 13, 16, 31}) {
            due("next(0, " + port + ")", x.next(0, port), NONE);
            due("out of port " + port, lend(x, 0, port), NO);
        }
        due("next(1, 0), of an own BLOCK", x.next(1, 0), 13);
        due("drop(3)", x.drop(3), 1);
        due("next(0, 0), a BLOCK is nobody's again", x.next(0, 0), 8);
    }

    static void chosenElseRunOutByParity() {
        Checks.says("Else the ports have run out for it.");
        BoxBindings x = new BoxBindings();
        x.rule(2, 1);
        lend(x, 0, 0);
        lend(x, 0, 2);
        lend(x, 1, 4);
        lend(x, 2, 8);
        lend(x, 3, 12);
        due("next of an even port", x.next(0, 4), NONE);
        due("out of an even port", lend(x, 0, 4), NO);
        due("next of an odd port", x.next(0, 5), 1);
        x.rule(2, 0);
        due("next of an even port by PARITY 0", x.next(0, 4), 1);
    }

    static void inFlagsAre0To2() {
        Checks.says("IN: a port of a REMOTE (0 to 4) sends to an OUTER PORT, with a flag.");
        BoxBindings x = withBinding(NEW);
        due("flag -1", x.in(0, 0, 0, -1), OUTSIDE);
        due("flag 3", x.in(0, 0, 0, 3), OUTSIDE);
        due("of(0, 1)", x.of(0, 1), NEW);
        due("flag 0", x.in(0, 0, 0, FLAG_NONE), 0);
        due("flag 1", x.in(0, 0, 0, FLAG_OPEN), 0);
        due("of(0, 1)", x.of(0, 1), OPEN);
        due("flag 2", x.in(0, 0, 0, FLAG_CLOSE), 0);
        due("of(0, 1)", x.of(0, 1), CLOSING);
    }

    static void inReason1BeforeReason2() {
        Checks.says("It is not let in for the least of these reasons: 1 that OUTER PORT is not lent");
        for (int filter = 0; filter <= 2; filter++) {
            BoxBindings x = withBinding(NEW);
            x.rule(1, filter);
            for (int outer = 1; outer <= 15; outer++) {
                due("why, not lent, by FILTER " + filter, x.why(3, 31, outer), 1);
                due("in, not lent, by FILTER " + filter, x.in(3, 31, outer, 0), NONE);
            }
            x.tick(4);
            due("why, lapsed, by FILTER " + filter, x.why(0, 0, 0), 1);
            due("in, lapsed, by FILTER " + filter, x.in(0, 0, 0, 0), NONE);
        }
    }

    static void inByFilter0FromAll() {
        Checks.says("2 by FILTER 1 no port of that REMOTE is SENT, by FILTER 2 that port of it is not");
        for (int remote = 0; remote <= 4; remote++) {
            BoxBindings x = withBinding(NEW);
            due("why by FILTER 0", x.why(remote, 15, 0), 0);
            due("in by FILTER 0", x.in(remote, 15, 0, 0), 0);
        }
    }

    static void inByFilter1FromARemoteSentTo() {
        Checks.says("2 by FILTER 1 no port of that REMOTE is SENT");
        for (int sent = 0; sent <= 4; sent++) {
            BoxBindings x = new BoxBindings();
            x.rule(1, 1);
            x.out(0, 0, sent, 15, 0);
            for (int remote = 0; remote <= 4; remote++) {
                for (int remotePort : new int[] {0, 14, 15}) {
                    due("why(" + remote + ", " + remotePort + ", 0)", x.why(remote, remotePort, 0), remote == sent ? 0 : 2);
                    due("in(" + remote + ", " + remotePort + ", 0)", x.in(remote, remotePort, 0, 0), remote == sent ? 0 : NONE);
                }
            }
        }
        BoxBindings last = new BoxBindings();
        last.rule(1, 1);
        last.out(0, 0, 3, 31, 0);
        due("in, by the last port that is SENT", last.in(3, 0, 0, 0), 0);
        due("in, not by what another BINDING has SENT", last.in(3, 0, 1, 0), NONE);
    }

    static void inByFilter2FromAPortSentTo() {
        Checks.says("by FILTER 2 that port of it is not");
        for (int sent = 0; sent <= 4; sent++) {
            for (int sentPort : new int[] {0, sent == 4 ? 15 : 31}) {
                BoxBindings x = new BoxBindings();
                x.rule(1, 2);
                x.out(0, 0, sent, sentPort, 0);
                for (int remote = 0; remote <= 4; remote++) {
                    for (int remotePort : new int[] {0, 1, remote == 4 ? 15 : 31}) {
                        boolean is = remote == sent && remotePort == sentPort;
                        due("why(" + remote + ", " + remotePort + ", 0)", x.why(remote, remotePort, 0), is ? 0 : 2);
                        due("in(" + remote + ", " + remotePort + ", 0)", x.in(remote, remotePort, 0, 0), is ? 0 : NONE);
                    }
                }
            }
        }
    }

    static void inGoesToThePortOfTheHost() {
        Checks.says("If it is let in, it goes to the port of the HOST to which it is lent");
        BoxBindings x = new BoxBindings();
        lend(x, 0, 0);
        lend(x, 3, 31);
        lend(x, 1, 16);
        due("in, the least", x.in(0, 0, 0, 0), 0);
        due("in, the most", x.in(0, 0, 15, 0), 127);
        due("in, by LIKE's BLOCK of another", x.in(0, 0, 4, 0), 48);
    }

    static void inChangesWhatItIs() {
        Checks.says("USED is TIME; by CLOSE the BINDING IS CLOSING, else, if it IS NEW, it IS OPEN.");
        int[][] after = {{OPEN, OPEN, CLOSING}, {OPEN, OPEN, CLOSING}, {CLOSING, CLOSING, CLOSING}};
        int[] lives = {4, 20, 2};
        for (int is = NEW; is <= CLOSING; is++) {
            for (int flag = FLAG_NONE; flag <= FLAG_CLOSE; flag++) {
                BoxBindings x = withBinding(is);
                x.tick(1);
                due("in, flag " + flag, x.in(0, 0, 0, flag), 0);
                due("of(0, 1), it was " + is + ", flag " + flag, x.of(0, 1), after[is][flag]);
                due("of(0, 2)", x.of(0, 2), lives[after[is][flag]]);
            }
        }
    }

    static void inNotLetInChangesNothing() {
        Checks.says("If it is let in, it goes to the port of the HOST");
        int[] lives = {4, 20, 2};
        for (int is = NEW; is <= CLOSING; is++) {
            for (int flag = FLAG_NONE; flag <= FLAG_CLOSE; flag++) {
                BoxBindings x = withBinding(is);
                x.rule(1, 2);
                x.tick(1);
                due("in, not let in", x.in(0, 1, 0, flag), NONE);
                due("of(0, 1)", x.of(0, 1), is);
                due("of(0, 2)", x.of(0, 2), lives[is] - 1);
            }
        }
    }

    // ---- Terms, 3

    static void packetsAre32() {
        Checks.says("A packet in PARTS has a REMOTE (0 to 3) and a NAME, 0 to 7");
        BoxBindings x = withBinding(NEW);
        int known = 0;
        for (int remote = 0; remote <= 3; remote++) {
            for (int name = 0; name <= 7; name++) {
                due("part 0 of " + remote + ", " + name, x.part(remote, name, 0, 0, 0), 1);
                known++;
                due("count(4)", x.count(4), known);
            }
        }
        due("REMOTE 4", x.part(4, 0, 0, 0, 0), OUTSIDE);
        due("REMOTE -1", x.part(-1, 0, 0, 0, 0), OUTSIDE);
        due("NAME 8", x.part(0, 8, 0, 0, 0), OUTSIDE);
        due("NAME -1", x.part(0, -1, 0, 0, 0), OUTSIDE);
        due("count(4)", x.count(4), 32);
    }

    static void packetsAreByRemoteAndName() {
        Checks.says("A packet in PARTS has a REMOTE (0 to 3) and a NAME, 0 to 7");
        BoxBindings x = withBinding(NEW);
        x.part(1, 0, 0, 0, 0);
        due("part of another NAME, not KNOWN", x.part(1, 1, 1, 0, 0), 0);
        due("part of another REMOTE, not KNOWN", x.part(0, 0, 1, 0, 0), 0);
        due("part of another REMOTE, not KNOWN", x.part(2, 0, 1, 0, 0), 0);
        due("part of NAME 7 of the REMOTE before", x.part(0, 7, 7, 0, 0), 0);
        due("part of it", x.part(1, 0, 1, 0, 0), 1);
        due("part 0 of one of them", x.part(1, 1, 0, 0, 0), 2);
        due("count(3)", x.count(3), 3);
    }

    static void partsAre0To7() {
        Checks.says("its PARTS are 0 to 7");
        BoxBindings x = withBinding(NEW);
        due("PART 8", x.part(0, 0, 8, 0, 0), OUTSIDE);
        due("PART -1", x.part(0, 0, -1, 0, 0), OUTSIDE);
        for (int part = 1; part <= 6; part++) {
            due("PART " + part, x.part(0, 0, part, 0, 0), 0);
            due("count(3), each is another", x.count(3), part);
        }
        due("PART 0", x.part(0, 0, 0, 0, 0), 7);
        due("PART 7, KNOWN", x.part(0, 0, 7, 0, 0), 1);
        due("PART 7, of another", x.part(0, 1, 7, 0, 0), 0);
    }

    static void onlyPart0TellsItsPorts() {
        Checks.says("Only PART 0 tells its ports.");
        int[] any = {Checks.MIN, -1, 0, 16, 32, Checks.MAX};
        for (int n : any) {
            BoxBindings x = withBinding(NEW);
            for (int part = 1; part <= 6; part++) {
                due("PART " + part + ", HELD, with " + n, x.part(0, 0, part, n, n), 0);
            }
            due("PART 1, HELD again, with " + n, x.part(0, 0, 1, n, n), 0);
            due("PART 7, FULL, with " + n, x.part(0, 0, 7, n, n), FULL);
            due("PART 0", x.part(0, 0, 0, 0, 0), 7);
            due("PART 7, KNOWN, with " + n, x.part(0, 0, 7, n, n), 1);
        }
    }

    static void part0IsAnIn() {
        Checks.says("It is an IN, with flag 0 (it changes the BINDING as that does).");
        int[] after = {OPEN, OPEN, CLOSING};
        int[] lives = {4, 20, 2};
        for (int is = NEW; is <= CLOSING; is++) {
            BoxBindings x = withBinding(is);
            x.tick(1);
            due("part 0", x.part(3, 7, 0, 31, 0), 1);
            due("of(0, 1)", x.of(0, 1), after[is]);
            due("of(0, 2)", x.of(0, 2), lives[after[is]]);
            due("of(0, 3), nothing more is SENT", x.of(0, 3), 1);
        }
    }

    static void part0IsAnInByFilter() {
        Checks.says("It is an IN, with flag 0");
        BoxBindings x = new BoxBindings();
        x.out(0, 0, 2, 31, 0);
        due("by FILTER 0 from another REMOTE", x.part(3, 0, 0, 0, 0), 1);
        x.rule(1, 1);
        due("by FILTER 1 from another REMOTE", x.part(3, 0, 0, 31, 0), NONE);
        due("by FILTER 1 from another port", x.part(2, 0, 0, 0, 0), 1);
        x.rule(1, 2);
        due("by FILTER 2 from another port", x.part(2, 0, 0, 30, 0), NONE);
        due("by FILTER 2 from that port", x.part(2, 0, 0, 31, 0), 1);
        due("to one that is not lent", x.part(2, 0, 0, 31, 15), NONE);
    }

    static void knownUntil5TicksLater() {
        Checks.says("until 5 ticks later (it is so still at TIME and 4, added, no more at TIME and 5)");
        BoxBindings steps = withBinding(NEW);
        steps.tick(3);
        steps.part(0, 0, 0, 0, 0);
        for (int later = 0; later <= 4; later++) {
            due("count(4), " + later + " later", steps.count(4), 1);
            due("part 1, " + later + " later", steps.part(0, 0, 1, 0, 0), 1);
            steps.tick(1);
        }
        due("count(4), 5 later", steps.count(4), 0);
        due("part 1, 5 later", steps.part(0, 0, 1, 0, 0), 0);

        BoxBindings four = withBinding(OPEN);
        four.part(0, 0, 0, 0, 0);
        four.tick(4);
        due("count(4), 4 later", four.count(4), 1);
        BoxBindings five = withBinding(OPEN);
        five.part(0, 0, 0, 0, 0);
        five.tick(5);
        due("count(4), 5 later", five.count(4), 0);
        BoxBindings six = withBinding(OPEN);
        six.part(0, 0, 0, 0, 0);
        six.tick(6);
        due("count(4), 6 later", six.count(4), 0);
        due("of(0, 1), the BINDING is there", six.of(0, 1), OPEN);
    }

    static void knownEachPacketByItself() {
        Checks.says("until 5 ticks later (it is so still at TIME and 4, added, no more at TIME and 5)");
        int[][] packets = {{0, 0}, {0, 7}, {1, 0}, {2, 3}, {3, 7}};
        BoxBindings x = withBinding(NEW);
        for (int[] packet : packets) {
            due("part 0 of " + packet[0] + ", " + packet[1], x.part(packet[0], packet[1], 0, 0, 0), 1);
            x.tick(1);
        }
        for (int over = 1; over <= 5; over++) {
            due("count(4), the first " + over + " are over", x.count(4), 5 - over);
            for (int i = over; i < 5; i++) {
                due("part 1 of one that is KNOWN", x.part(packets[i][0], packets[i][1], 1, 0, 0), 1);
            }
            due("part 1 of one that is over", x.part(packets[over - 1][0], packets[over - 1][1], 1, 0, 0), 0);
            x.tick(1);
        }
    }

    static void knownAnewByPart0Again() {
        Checks.says("If it is let in, the packet is KNOWN, as one of that BINDING, until 5 ticks later");
        BoxBindings x = withBinding(NEW);
        x.part(0, 0, 0, 0, 0);
        x.tick(4);
        due("part 0 again", x.part(0, 0, 0, 0, 0), 1);
        x.tick(4);
        due("count(4), 4 after it came again", x.count(4), 1);
        x.tick(1);
        due("count(4), 5 after it came again", x.count(4), 0);
    }

    static void knownIsNotMadeLongerByOtherParts() {
        Checks.says("the packet is KNOWN, as one of that BINDING, until 5 ticks later");
        BoxBindings x = withBinding(NEW);
        x.part(0, 0, 0, 0, 0);
        x.tick(4);
        due("part 7 goes on", x.part(0, 0, 7, 0, 0), 1);
        x.tick(1);
        due("count(4)", x.count(4), 0);
    }

    static void knownAsLongAsThatBindingIsThere() {
        Checks.says("as long as that BINDING is there");
        BoxBindings lapsed = withBinding(NEW);
        lapsed.rule(4, 3);
        lapsed.part(0, 0, 0, 0, 0);
        lapsed.tick(2);
        due("count(4), still there", lapsed.count(4), 1);
        lapsed.tick(1);
        due("count(4), lapsed", lapsed.count(4), 0);
        due("part 1, lapsed", lapsed.part(0, 0, 1, 0, 0), 0);

        BoxBindings dropped = withBinding(NEW);
        dropped.part(0, 0, 0, 0, 0);
        dropped.drop(1);
        due("count(4), another HOST is dropped", dropped.count(4), 1);
        dropped.drop(0);
        due("count(4), dropped", dropped.count(4), 0);

        BoxBindings mapped = withBinding(NEW);
        mapped.part(0, 0, 0, 0, 0);
        mapped.rule(0, 0);
        due("count(4), the same MAPPING", mapped.count(4), 1);
        mapped.rule(0, 2);
        due("count(4), another MAPPING", mapped.count(4), 0);

        BoxBindings shorter = withBinding(NEW);
        shorter.part(0, 0, 0, 0, 0);
        shorter.tick(1);
        shorter.rule(4, 1);
        due("count(4), by a shorter LIFE", shorter.count(4), 0);
    }

    static void knownNotByALaterBindingOfThatPort() {
        Checks.says("as one of that BINDING");
        BoxBindings x = withBinding(NEW);
        x.part(0, 0, 0, 0, 0);
        x.drop(0);
        due("out, the same lent anew", lend(x, 0, 0), 0);
        due("count(4)", x.count(4), 0);
        due("part 1", x.part(0, 0, 1, 0, 0), 0);
    }

    static void knownByTheBindingItCameByLast() {
        Checks.says("If it is let in, the packet is KNOWN, as one of that BINDING");
        BoxBindings x = withBinding(NEW);
        lend(x, 1, 15);
        x.part(0, 0, 0, 0, 0);
        due("part 0 by the other BINDING", x.part(0, 0, 0, 0, 15), 1);
        due("count(4)", x.count(4), 1);
        x.drop(0);
        due("count(4), the first one goes", x.count(4), 1);
        x.drop(1);
        due("count(4), the other one goes", x.count(4), 0);
    }

    static void heldGoOnWithPart0() {
        Checks.says("PARTS of it that are HELD go on then.");
        for (int held = 0; held <= 6; held++) {
            BoxBindings x = withBinding(NEW);
            for (int part = 7; part > 7 - held; part--) {
                x.part(2, 5, part, 0, 0);
            }
            due("part 0 with " + held + " HELD", x.part(2, 5, 0, 0, 0), 1 + held);
            due("count(3)", x.count(3), 0);
            due("part 0 again", x.part(2, 5, 0, 0, 0), 1);
        }
    }

    static void heldOfAnotherDoNotGoOn() {
        Checks.says("PARTS of it that are HELD go on then.");
        BoxBindings x = withBinding(NEW);
        x.part(0, 0, 1, 0, 0);
        x.part(0, 1, 1, 0, 0);
        x.part(1, 0, 1, 0, 0);
        x.part(3, 7, 7, 0, 0);
        due("part 0", x.part(0, 0, 0, 0, 0), 2);
        due("count(3)", x.count(3), 3);
        due("part 0 of the last", x.part(3, 7, 0, 0, 0), 2);
        due("count(3)", x.count(3), 2);
    }

    static void notLetInAllHeldGoLost() {
        Checks.says("If it is not let in, all PARTS of it that are HELD go lost, and it is KNOWN no more.");
        BoxBindings x = withBinding(NEW);
        for (int part = 1; part <= 5; part++) {
            x.part(0, 0, part, 0, 0);
        }
        x.part(0, 1, 5, 0, 0);
        due("part 0, not let in", x.part(0, 0, 0, 0, 1), NONE);
        due("count(3), those of another stay", x.count(3), 1);
        due("part 0, let in later: they are lost", x.part(0, 0, 0, 0, 0), 1);
        due("part 0 of another", x.part(0, 1, 0, 0, 0), 2);
    }

    static void notLetInKnownNoMore() {
        Checks.says("If it is not let in, all PARTS of it that are HELD go lost, and it is KNOWN no more.");
        BoxBindings x = withBinding(NEW);
        x.part(0, 0, 0, 0, 0);
        x.part(0, 1, 0, 0, 0);
        due("count(4)", x.count(4), 2);
        due("part 0, not let in", x.part(0, 0, 0, 0, 1), NONE);
        due("count(4), another stays so", x.count(4), 1);
        due("part 1 is HELD", x.part(0, 0, 1, 0, 0), 0);
        due("part 1 of another", x.part(0, 1, 1, 0, 0), 1);
    }

    static void notLetInEachPacketByItself() {
        Checks.says("If it is not let in, all PARTS of it that are HELD go lost, and it is KNOWN no more.");
        int[][] packets = {{0, 0}, {0, 7}, {1, 0}, {2, 3}, {3, 7}};
        for (int[] gone : packets) {
            BoxBindings x = withBinding(NEW);
            for (int[] packet : packets) {
                x.part(packet[0], packet[1], 0, 0, 0);
            }
            due("part 0, not let in", x.part(gone[0], gone[1], 0, 0, 1), NONE);
            due("count(4)", x.count(4), 4);
            for (int[] packet : packets) {
                due("part 1 of " + packet[0] + ", " + packet[1], x.part(packet[0], packet[1], 1, 0, 0), packet == gone ? 0 : 1);
            }
            due("part 0, not let in: it goes lost", x.part(gone[0], gone[1], 0, 0, 1), NONE);
            due("count(3)", x.count(3), 0);
        }
    }

    static void refusedPart0LosesNothing() {
        Checks.says("What is refused changes nothing.");
        BoxBindings x = withBinding(NEW);
        x.part(0, 0, 1, 0, 0);
        x.part(0, 1, 0, 0, 0);
        due("part 0, port 32", x.part(0, 0, 0, 32, 0), OUTSIDE);
        due("part 0, OUTER PORT 16", x.part(0, 0, 0, 0, 16), UNKNOWN);
        due("part 0 of a KNOWN one, OUTER PORT -1", x.part(0, 1, 0, 0, -1), UNKNOWN);
        due("count(3)", x.count(3), 1);
        due("count(4)", x.count(4), 1);
        due("part 0", x.part(0, 0, 0, 0, 0), 2);
    }

    static void heldUntil5TicksLater() {
        Checks.says("also until 5 ticks later");
        BoxBindings x = new BoxBindings();
        x.tick(3);
        x.part(0, 0, 1, 0, 0);
        for (int later = 0; later <= 4; later++) {
            due("count(3), " + later + " later", x.count(3), 1);
            x.tick(1);
        }
        due("count(3), 5 later", x.count(3), 0);

        BoxBindings four = withBinding(OPEN);
        four.part(0, 0, 1, 0, 0);
        four.tick(4);
        due("part 0, 4 later", four.part(0, 0, 0, 0, 0), 2);
        BoxBindings five = withBinding(OPEN);
        five.part(0, 0, 1, 0, 0);
        five.tick(5);
        due("part 0, 5 later", five.part(0, 0, 0, 0, 0), 1);
        BoxBindings six = withBinding(OPEN);
        six.part(0, 0, 1, 0, 0);
        six.tick(6);
        due("count(3), 6 later", six.count(3), 0);
    }

    static void heldEachByItself() {
        Checks.says("also until 5 ticks later");
        BoxBindings x = new BoxBindings();
        for (int i = 0; i < 5; i++) {
            due("part", x.part(i % 4, 7 - i, 7 - i, 0, 0), 0);
            x.tick(1);
        }
        for (int over = 1; over <= 5; over++) {
            due("count(3), the first " + over + " are over", x.count(3), 5 - over);
            x.tick(1);
        }
    }

    static void heldStaysAsSinceItCameFirst() {
        Checks.says("(one that is HELD stays so, as since it came first)");
        BoxBindings x = new BoxBindings();
        x.part(0, 0, 1, 0, 0);
        x.tick(4);
        due("part 1 again", x.part(0, 0, 1, 0, 0), 0);
        due("count(3), it is one", x.count(3), 1);
        x.tick(1);
        due("count(3), 5 after it came first", x.count(3), 0);
        due("part 1, HELD anew", x.part(0, 0, 1, 0, 0), 0);
        x.tick(4);
        due("count(3), 4 after it came anew", x.count(3), 1);
        x.tick(1);
        due("count(3), 5 after it came anew", x.count(3), 0);
    }

    static void heldOutlivesBindings() {
        Checks.says("also until 5 ticks later");
        BoxBindings x = withBinding(NEW);
        x.part(0, 0, 1, 0, 0);
        x.drop(0);
        due("count(3), a dropped HOST", x.count(3), 1);
        x.rule(0, 1);
        due("count(3), another MAPPING", x.count(3), 1);
        x.rule(1, 2);
        due("count(3), another FILTER", x.count(3), 1);
    }

    static void sixCanBeHeld() {
        Checks.says("6 can be HELD.");
        BoxBindings x = new BoxBindings();
        for (int i = 0; i < 6; i++) {
            due("part, the " + (i + 1) + ".", x.part(i % 4, 7 - i, 1 + i, 0, 0), 0);
        }
        due("count(3)", x.count(3), 6);
        due("part, the 7.", x.part(0, 0, 1, 0, 0), FULL);
        due("count(3)", x.count(3), 6);
        due("part, the 2. again", x.part(1, 6, 2, 0, 0), 0);
        due("count(3)", x.count(3), 6);
        due("part 0, not let in: one goes lost", x.part(1, 6, 0, 0, 0), NONE);
        due("count(3)", x.count(3), 5);
        due("part, in its place", x.part(0, 0, 1, 0, 0), 0);
        due("part, one too many", x.part(0, 0, 2, 0, 0), FULL);
        x.tick(5);
        due("count(3), all are over", x.count(3), 0);
        for (int part = 1; part <= 6; part++) {
            due("part", x.part(0, 0, part, 0, 0), 0);
        }
        due("part, one too many", x.part(0, 0, 7, 0, 0), FULL);
    }

    static void knownIsNoMatterOfHowManyAreHeld() {
        Checks.says("Another PART goes on, if its packet is KNOWN, else it is HELD");
        BoxBindings x = withBinding(OPEN);
        x.part(1, 1, 0, 0, 0);
        for (int part = 1; part <= 6; part++) {
            x.part(0, 0, part, 0, 0);
        }
        due("part of a KNOWN packet, 6 are HELD", x.part(1, 1, 7, 0, 0), 1);
        due("part 0, 6 are HELD", x.part(1, 2, 0, 0, 0), 1);
        x.tick(4);
        due("part, still KNOWN", x.part(1, 1, 7, 0, 0), 1);
    }

    static void otherPartsChangeNothingOfABinding() {
        Checks.says("(Other PARTS that go on change nothing of a BINDING.)");
        BoxBindings x = withBinding(OPEN);
        x.part(3, 0, 0, 9, 0);
        x.out(0, 0, 0, 0, FLAG_CLOSE);
        x.out(0, 0, 0, 0, FLAG_OPEN);
        x.tick(3);
        due("part 1 goes on", x.part(3, 0, 1, 9, 0), 1);
        due("of(0, 1), NEW as it was", x.of(0, 1), NEW);
        due("of(0, 2), USED as it was", x.of(0, 2), 1);
        due("of(0, 3), SENT as it was", x.of(0, 3), 1);
        due("tick(1)", x.tick(1), 1);
    }

    static void otherPartsThatAreHeldGoingOnChangeNothing() {
        Checks.says("(Other PARTS that go on change nothing of a BINDING.)");
        BoxBindings x = withBinding(NEW);
        lend(x, 1, 15);
        x.part(3, 0, 1, 0, 15);
        x.tick(3);
        due("part 0, with one that was HELD", x.part(3, 0, 0, 0, 0), 2);
        due("of(15, 1), it told no ports", x.of(15, 1), NEW);
        due("of(15, 2)", x.of(15, 2), 1);
    }

    public static void main(String[] args) {
        Checks.runAll(TermsEdgesTest.class);
    }
}
