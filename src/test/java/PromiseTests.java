/** For each promise: ordinary inputs, the edges that the document names, and wrong inputs. */
public final class PromiseTests {
    private static final int UNKNOWN = -1, OUTSIDE = -2, STATE = -3, FULL = -4, NO = -5, NONE = -6;
    private static final int[] WRONG = {-1, Integer.MIN_VALUE, Integer.MAX_VALUE};
    private static int wrong = 0;
    private static String where = "";

    private static void due(String call, int got, int want) {
        if (got != want) {
            wrong++;
            System.out.println(where + ": " + call + " answered " + got + ", due is " + want);
        }
    }

    /** What an object tells of how it stands, as one text; short, as an object is good for 512 calls. */
    private static String told(BoxBindings x) {
        StringBuilder text = new StringBuilder();
        for (int outer = 0; outer < 16; outer++) {
            int inner = x.of(outer, 0);
            text.append(inner).append(' ');
            for (int what = 1; what < 6 && inner != NONE; what++) {
                text.append(x.of(outer, what)).append(' ');
            }
        }
        for (int host = 0; host < 4; host++) {
            text.append(x.host(host, 2)).append(' ').append(x.host(host, 3)).append(' ');
        }
        for (int what : new int[] {1, 3, 4, 5, 10, 11, 12, 13, 14, 15}) {
            text.append(x.count(what)).append(' ');
        }
        return text.toString();
    }

    private static void dueSame(String what, BoxBindings x, String before) {
        if (!told(x).equals(before)) {
            wrong++;
            System.out.println(where + ": " + what + " changed something");
        }
    }

    private static void promise1NewObject() {
        BoxBindings x = new BoxBindings();
        due("count(0)", x.count(0), 0);
        due("count(1)", x.count(1), 0);
        due("count(2)", x.count(2), 4);
        due("count(3)", x.count(3), 0);
        due("count(4)", x.count(4), 0);
        due("count(5)", x.count(5), 0);
        int[] rules = {0, 0, 0, 4, 20, 2};
        for (int i = 0; i < 6; i++) {
            due("count(1" + i + ")", x.count(10 + i), rules[i]);
        }
        due("soon()", x.soon(), NONE);
        due("restore(0)", x.restore(0), STATE);
        due("restore(1)", x.restore(1), STATE);
        for (int outer = 0; outer < 16; outer++) {
            due("of(" + outer + ", 0)", x.of(outer, 0), NONE);
        }
        BoxBindings other = new BoxBindings();
        x.out(0, 0, 0, 0, 0);
        due("count(0) of another object", other.count(0), 0);
    }

    private static void promise2Rule() {
        BoxBindings x = new BoxBindings();
        int[] first = {0, 0, 0, 4, 20, 2};
        int[] least = {0, 0, 0, 1, 1, 1};
        int[] most = {2, 2, 1, 60, 60, 60};
        for (int what = 0; what < 6; what++) {
            due("rule most", x.rule(what, most[what]), first[what]);
            due("rule least", x.rule(what, least[what]), most[what]);
            due("rule first", x.rule(what, first[what]), least[what]);
            due("rule above", x.rule(what, most[what] + 1), OUTSIDE);
            due("rule below", x.rule(what, least[what] - 1), OUTSIDE);
            due("rule as it was", x.count(10 + what), first[what]);
        }
        due("rule(6, 1)", x.rule(6, 1), OUTSIDE);
        for (int n : WRONG) {
            due("rule(wrong, 1)", x.rule(n, 1), OUTSIDE);
            due("rule(0, wrong)", x.rule(0, n), OUTSIDE);
        }
        x.out(1, 3, 2, 9, 0);
        x.out(2, 3, 2, 9, 0);
        due("rule(0, 0), the same", x.rule(0, 0), 0);
        due("count(0)", x.count(0), 2);
        x.part(2, 0, 0, 9, 3);
        due("count(4)", x.count(4), 1);
        due("rule(0, 3)", x.rule(0, 3), OUTSIDE);
        due("count(0)", x.count(0), 2);
        due("rule(1, 2)", x.rule(1, 2), 0);
        due("rule(2, 1)", x.rule(2, 1), 0);
        due("count(0)", x.count(0), 2);
        due("rule(0, 1), another", x.rule(0, 1), 0);
        due("count(0)", x.count(0), 0);
        due("count(4)", x.count(4), 0);
        shorterLifeEndsAtOnce();
    }

    private static void shorterLifeEndsAtOnce() {
        BoxBindings x = new BoxBindings();
        x.out(0, 0, 0, 0, 0);
        x.out(0, 1, 0, 0, 0);
        x.in(0, 0, 1, 0);
        x.part(0, 3, 0, 0, 1);
        x.rule(5, 9);
        x.out(0, 2, 0, 0, 2);
        x.tick(3);
        due("rule(3, 3)", x.rule(3, 3), 4);
        due("of(0, 0), lapsed by its LIFE", x.of(0, 0), NONE);
        due("rule(3, 60)", x.rule(3, 60), 3);
        due("of(0, 0), lapsed for good", x.of(0, 0), NONE);
        due("of(1, 2)", x.of(1, 2), 17);
        due("count(4)", x.count(4), 1);
        due("rule(4, 3)", x.rule(4, 3), 20);
        due("of(1, 0)", x.of(1, 0), NONE);
        due("count(4), its BINDING is gone", x.count(4), 0);
        due("rule(5, 4)", x.rule(5, 4), 9);
        due("of(2, 2)", x.of(2, 2), 1);
        due("rule(5, 2)", x.rule(5, 2), 4);
        due("count(0)", x.count(0), 0);
        due("tick(1)", x.tick(1), 0);
    }

    private static void promise3Out() {
        BoxBindings x = new BoxBindings();
        due("out(3, 31, 3, 31, 0)", x.out(3, 31, 3, 31, 0), 15);
        due("of(15, 0)", x.of(15, 0), 127);
        due("out, the same again", x.out(3, 31, 0, 0, 0), 15);
        due("of(15, 3)", x.of(15, 3), 2);
        due("out(3, 15, 4, 15, 0)", x.out(3, 15, 4, 15, 0), 12);
        due("out(3, 14, 4, 15, 0)", x.out(3, 14, 4, 15, 0), 14);
        due("out(3, 13, 4, 15, 0)", x.out(3, 13, 4, 15, 0), 13);
        due("out(3, 29, 4, 15, 0)", x.out(3, 29, 4, 15, 0), 0);
        due("out(3, 28, 4, 15, 0)", x.out(3, 28, 4, 15, 0), 1);
        due("out(3, 8, 4, 15, 0), of an own BLOCK", x.out(3, 8, 4, 15, 0), 2);
        outFlags();
        outRefused();
        outWhenFull();
    }

    private static void outFlags() {
        BoxBindings x = new BoxBindings();
        x.out(0, 0, 0, 0, 2);
        due("of(0, 1) by CLOSE at first", x.of(0, 1), 2);
        x.tick(1);
        x.out(0, 0, 0, 0, 0);
        due("of(0, 1) by no flag", x.of(0, 1), 2);
        due("of(0, 2) used", x.of(0, 2), 2);
        x.out(0, 0, 0, 0, 1);
        due("of(0, 1) by OPEN", x.of(0, 1), 0);
        x.in(0, 0, 0, 0);
        x.out(0, 0, 0, 0, 1);
        due("of(0, 1) OPEN stays", x.of(0, 1), 1);
        x.tick(7);
        x.out(0, 0, 0, 0, 0);
        due("of(0, 1) OPEN stays", x.of(0, 1), 1);
        due("of(0, 2)", x.of(0, 2), 20);
        x.out(0, 1, 0, 0, 1);
        due("of(1, 1) by OPEN at first", x.of(1, 1), 0);
        x.out(0, 1, 0, 0, 2);
        x.tick(2);
        x.out(0, 1, 0, 0, 0);
        due("of(1, 1), lent anew", x.of(1, 1), 0);
    }

    private static void outRefused() {
        BoxBindings x = new BoxBindings();
        x.out(1, 1, 1, 1, 0);
        String before = told(x);
        due("host first", x.out(4, 32, 5, 32, 3), UNKNOWN);
        due("port", x.out(0, 32, 0, 0, 0), OUTSIDE);
        due("remote", x.out(0, 0, 5, 0, 0), OUTSIDE);
        due("remote port", x.out(0, 0, 3, 32, 0), OUTSIDE);
        due("remote port of 4", x.out(0, 0, 4, 16, 0), OUTSIDE);
        due("flag", x.out(0, 0, 0, 0, 3), OUTSIDE);
        for (int n : WRONG) {
            due("host", x.out(n, 0, 0, 0, 0), UNKNOWN);
            due("port", x.out(0, n, 0, 0, 0), OUTSIDE);
            due("remote", x.out(0, 0, n, 0, 0), OUTSIDE);
            due("remote port", x.out(0, 0, 0, n, 0), OUTSIDE);
            due("flag", x.out(0, 0, 0, 0, n), OUTSIDE);
        }
        dueSame("a refused out", x, before);
    }

    private static void outWhenFull() {
        BoxBindings x = new BoxBindings();
        for (int block = 0; block < 4; block++) {
            due("out", x.out(block, 4 * block, 0, 0, 0), 4 * block);
        }
        due("out of an own BLOCK", x.out(0, 20, 0, 0, 0), 1);
        due("out", x.out(0, 21, 0, 0, 0), 2);
        due("out", x.out(0, 22, 0, 0, 0), 3);
        String before = told(x);
        due("out with no port left", x.out(0, 23, 0, 0, 0), NO);
        due("flag goes before NO", x.out(0, 23, 0, 0, 3), OUTSIDE);
        dueSame("NO", x, before);
        due("out by a BINDING that is there", x.out(0, 22, 3, 0, 0), 3);
        due("out for another HOST", x.out(1, 23, 0, 0, 0), 7);
        x.rule(2, 1);
        due("out of an odd port", x.out(2, 0, 0, 0, 0), 10);
        due("out by PARITY", x.out(2, 2, 0, 0, 0), NO);
        due("out by PARITY", x.out(2, 3, 0, 0, 0), 9);
    }

    private static void mappings() {
        BoxBindings x = new BoxBindings();
        x.rule(0, 1);
        due("out", x.out(0, 0, 0, 0, 0), 0);
        due("out, another port of it", x.out(0, 0, 0, 31, 0), 0);
        due("out, another REMOTE", x.out(0, 0, 1, 0, 0), 1);
        due("out, the box", x.out(0, 0, 4, 0, 0), 2);
        due("of(2, 4)", x.of(2, 4), 4);
        due("of(2, 5)", x.of(2, 5), NONE);
        x.rule(0, 2);
        due("out", x.out(0, 0, 0, 0, 0), 0);
        due("out, another port of it", x.out(0, 0, 0, 31, 0), 1);
        due("out, another REMOTE", x.out(0, 0, 1, 0, 0), 2);
        due("out, the same", x.out(0, 0, 0, 31, 0), 1);
        due("of(1, 4)", x.of(1, 4), 0);
        due("of(1, 5)", x.of(1, 5), 31);
        due("of(1, 3)", x.of(1, 3), 1);
        due("in by FILTER 0 from any", x.in(3, 3, 1, 0), 0);
    }

    private static void promise4In() {
        BoxBindings x = new BoxBindings();
        x.out(2, 17, 1, 7, 0);
        x.tick(3);
        due("in by FILTER 0", x.in(3, 31, 1, 0), 81);
        due("of(1, 1)", x.of(1, 1), 1);
        due("of(1, 2)", x.of(1, 2), 20);
        due("of(1, 3), IN is not SENT", x.of(1, 3), 1);
        due("in, not lent", x.in(1, 7, 2, 0), NONE);
        x.rule(1, 1);
        due("in by FILTER 1", x.in(1, 8, 1, 0), 81);
        due("in by FILTER 1", x.in(2, 7, 1, 0), NONE);
        due("in by FILTER 1, from the box", x.in(4, 7, 1, 0), NONE);
        x.rule(1, 2);
        due("in by FILTER 2", x.in(1, 7, 1, 0), 81);
        x.tick(1);
        due("in by FILTER 2", x.in(1, 8, 1, 2), NONE);
        due("of(1, 1)", x.of(1, 1), 1);
        due("of(1, 2), not let in, not USED", x.of(1, 2), 19);
        due("in with CLOSE", x.in(1, 7, 1, 2), 81);
        due("of(1, 1)", x.of(1, 1), 2);
        x.tick(1);
        due("in with OPEN", x.in(1, 7, 1, 1), 81);
        due("of(1, 1), CLOSING stays", x.of(1, 1), 2);
        due("of(1, 2)", x.of(1, 2), 2);
        x.out(2, 17, 1, 7, 1);
        due("in with OPEN", x.in(1, 7, 1, 1), 81);
        due("of(1, 1), NEW becomes OPEN", x.of(1, 1), 1);
        x.out(2, 17, 4, 15, 0);
        due("in from the box", x.in(4, 15, 1, 0), 81);
        x.out(0, 4, 0, 31, 0);
        due("in, the last port", x.in(0, 31, 4, 0), 4);
        inRefused(x);
    }

    private static void inRefused(BoxBindings x) {
        String before = told(x);
        due("remote first", x.in(5, 0, 16, 3), OUTSIDE);
        due("its port first", x.in(0, 32, 16, 3), OUTSIDE);
        due("its port of 4", x.in(4, 16, 16, 3), OUTSIDE);
        due("outer, then flag", x.in(0, 0, 16, 3), UNKNOWN);
        due("flag", x.in(0, 0, 1, 3), OUTSIDE);
        due("flag, not lent", x.in(0, 0, 0, 3), OUTSIDE);
        for (int n : WRONG) {
            due("remote", x.in(n, 0, 1, 0), OUTSIDE);
            due("its port", x.in(0, n, 1, 0), OUTSIDE);
            due("outer", x.in(0, 0, n, 0), UNKNOWN);
            due("flag", x.in(0, 0, 1, n), OUTSIDE);
        }
        dueSame("a refused in", x, before);
    }

    private static void promise5Turn() {
        BoxBindings x = new BoxBindings();
        due("turn to a port not lent", x.turn(3, 9, 0, 0), NONE);
        due("OUT has been done", x.of(9, 0), 105);
        due("sent(9, 4, 0)", x.sent(9, 4, 0), 1);
        due("turn to the port lent by it", x.turn(0, 16, 0, 0), 0 + 16);
        due("of(0, 1)", x.of(0, 1), 1);
        due("turn to itself", x.turn(3, 9, 9, 0), 105);
        due("of(9, 1)", x.of(9, 1), 1);
        due("of(9, 3)", x.of(9, 3), 2);
        due("turn with CLOSE", x.turn(0, 16, 9, 2), 105);
        due("of(9, 1)", x.of(9, 1), 2);
        due("of(0, 1)", x.of(0, 1), 2);
        due("turn with OPEN", x.turn(0, 16, 9, 1), 105);
        due("of(9, 1)", x.of(9, 1), 2);
        due("of(0, 1)", x.of(0, 1), 0);
        x.rule(1, 1);
        due("turn by FILTER 1", x.turn(1, 4, 9, 0), 105);
        due("turn by FILTER 1", x.turn(1, 4, 0, 0), 16);
        x.rule(1, 2);
        due("turn by FILTER 2", x.turn(1, 4, 9, 0), NONE);
        due("turn back", x.turn(3, 9, 4, 0), 36);
        due("turn by FILTER 2", x.turn(1, 4, 9, 0), 105);
        String before = told(x);
        due("host first", x.turn(4, 32, 16, 3), UNKNOWN);
        due("then port", x.turn(0, 32, 16, 3), OUTSIDE);
        due("then outer", x.turn(0, 0, 16, 3), UNKNOWN);
        due("then flag", x.turn(0, 0, 0, 3), OUTSIDE);
        for (int n : WRONG) {
            due("host", x.turn(n, 0, 0, 0), UNKNOWN);
            due("port", x.turn(0, n, 0, 0), OUTSIDE);
            due("outer", x.turn(0, 0, n, 0), UNKNOWN);
            due("flag", x.turn(0, 0, 0, n), OUTSIDE);
        }
        dueSame("a refused turn", x, before);
        turnWhenFull();
    }

    private static void turnWhenFull() {
        BoxBindings x = new BoxBindings();
        for (int port = 0; port < 16; port++) {
            x.out(0, port, 0, 0, 0);
        }
        String before = told(x);
        due("flag goes before NO", x.turn(1, 0, 0, 3), OUTSIDE);
        due("turn with no port left", x.turn(1, 0, 0, 0), NO);
        dueSame("NO", x, before);
    }

    private static void promise6Part() {
        BoxBindings x = new BoxBindings();
        due("part, HELD", x.part(0, 0, 7, -1, -1), 0);
        x.tick(1);
        due("part, HELD as since it came first", x.part(0, 0, 7, 0, 0), 0);
        due("part of another NAME", x.part(0, 1, 7, 0, 0), 0);
        due("part of another REMOTE", x.part(1, 0, 7, 0, 0), 0);
        due("count(3)", x.count(3), 3);
        x.tick(3);
        due("count(3), still at 4", x.count(3), 3);
        x.tick(1);
        due("count(3), no more at 5", x.count(3), 2);
        x.out(0, 0, 0, 31, 0);
        due("part 0", x.part(0, 1, 0, 31, 0), 2);
        due("of(0, 1), as IN", x.of(0, 1), 1);
        due("count(3)", x.count(3), 1);
        due("count(4)", x.count(4), 1);
        due("part 0 again", x.part(0, 1, 0, 31, 0), 1);
        due("count(4)", x.count(4), 1);
        x.tick(4);
        due("part 1 goes on, still at 4", x.part(0, 1, 1, 99, 99), 1);
        due("of(0, 2), it changes nothing", x.of(0, 2), 16);
        due("part 1 goes on again", x.part(0, 1, 1, 99, 99), 1);
        due("part 0 makes it KNOWN longer", x.part(0, 1, 0, 31, 0), 1);
        due("of(0, 2)", x.of(0, 2), 20);
        x.tick(4);
        due("count(4), still", x.count(4), 1);
        x.tick(1);
        due("count(4), no more", x.count(4), 0);
        due("part 1 is HELD", x.part(0, 1, 1, 0, 0), 0);
        partNotLetIn();
        partsOfBindingsThatGo();
        partsFull();
        partRefused();
    }

    private static void partNotLetIn() {
        BoxBindings x = new BoxBindings();
        x.rule(1, 2);
        x.out(0, 0, 1, 3, 0);
        x.part(1, 2, 1, 0, 0);
        x.part(1, 2, 2, 0, 0);
        x.part(1, 3, 2, 0, 0);
        due("part 0 by FILTER 2", x.part(1, 2, 0, 4, 0), NONE);
        due("count(3), those of it are lost", x.count(3), 1);
        due("of(0, 1)", x.of(0, 1), 0);
        due("part 0 let in", x.part(1, 2, 0, 3, 0), 1);
        due("count(4)", x.count(4), 1);
        due("part 0 of another, let in", x.part(1, 3, 0, 3, 0), 2);
        due("count(4)", x.count(4), 2);
        due("part 0, not lent", x.part(1, 2, 0, 3, 1), NONE);
        due("count(4), KNOWN no more", x.count(4), 1);
        due("part 5 is HELD", x.part(1, 2, 5, 3, 0), 0);
        due("part 5 of another goes on", x.part(1, 3, 5, 3, 0), 1);
    }

    private static void partsOfBindingsThatGo() {
        BoxBindings x = new BoxBindings();
        x.out(0, 0, 0, 0, 0);
        x.out(1, 4, 0, 0, 0);
        x.part(0, 0, 0, 0, 0);
        x.part(0, 1, 0, 0, 4);
        x.part(0, 2, 0, 0, 0);
        due("count(4)", x.count(4), 3);
        due("part 0 by another BINDING", x.part(0, 2, 0, 0, 4), 1);
        due("drop(0)", x.drop(0), 1);
        due("count(4), its BINDING is gone", x.count(4), 2);
        x.out(0, 0, 0, 0, 0);
        due("part 1, a later BINDING is another", x.part(0, 0, 1, 0, 0), 0);
        due("part 1", x.part(0, 1, 1, 0, 0), 1);
        due("part 1", x.part(0, 2, 1, 0, 0), 1);
        x.in(0, 0, 4, 2);
        x.tick(2);
        due("count(4), its BINDING has lapsed", x.count(4), 0);
        due("count(3), HELD stays", x.count(3), 1);
        due("rule(0, 2)", x.rule(0, 2), 0);
        due("count(3), HELD stays", x.count(3), 1);
        due("count(0)", x.count(0), 0);
    }

    private static void partsFull() {
        BoxBindings x = new BoxBindings();
        for (int part = 1; part <= 6; part++) {
            due("part", x.part(3, 7, part, 0, 0), 0);
        }
        x.out(0, 0, 3, 0, 0);
        x.part(2, 0, 0, 0, 0);
        String before = told(x);
        due("the 7th", x.part(3, 7, 7, 0, 0), FULL);
        due("the 7th, of another", x.part(3, 6, 1, 0, 0), FULL);
        dueSame("FULL", x, before);
        due("one that is HELD", x.part(3, 7, 6, 0, 0), 0);
        due("one of a KNOWN packet", x.part(2, 0, 7, 0, 0), 1);
        due("part 0", x.part(3, 7, 0, 0, 0), 7);
        due("count(3)", x.count(3), 0);
    }

    private static void partRefused() {
        BoxBindings x = new BoxBindings();
        x.part(0, 0, 1, 0, 0);
        String before = told(x);
        due("remote 4", x.part(4, 0, 1, 0, 0), OUTSIDE);
        due("name 8", x.part(0, 8, 1, 0, 0), OUTSIDE);
        due("part 8", x.part(0, 0, 8, 0, 0), OUTSIDE);
        due("remote, then outer", x.part(4, 0, 0, 0, 16), OUTSIDE);
        due("port, then outer", x.part(0, 0, 0, 32, 16), OUTSIDE);
        due("outer", x.part(0, 0, 0, 31, 16), UNKNOWN);
        for (int n : WRONG) {
            due("remote", x.part(n, 0, 1, 0, 0), OUTSIDE);
            due("name", x.part(0, n, 1, 0, 0), OUTSIDE);
            due("part", x.part(0, 0, n, 0, 0), OUTSIDE);
            due("port", x.part(0, 0, 0, n, 0), OUTSIDE);
            due("outer", x.part(0, 0, 0, 0, n), UNKNOWN);
            due("no matter", x.part(0, 0, 1, n, n), 0);
        }
        dueSame("a refused part", x, before);
    }

    private static void promise7Tick() {
        BoxBindings x = new BoxBindings();
        x.out(0, 0, 0, 0, 0);
        x.out(0, 1, 0, 0, 2);
        x.out(0, 2, 0, 0, 0);
        x.in(0, 0, 2, 0);
        due("tick(1)", x.tick(1), 0);
        due("tick(1), CLOSING lapses", x.tick(1), 1);
        due("tick(1)", x.tick(1), 0);
        due("tick(1), NEW lapses", x.tick(1), 1);
        due("tick(15)", x.tick(15), 0);
        due("count(0)", x.count(0), 1);
        due("tick(1), OPEN lapses", x.tick(1), 1);
        due("count(0)", x.count(0), 0);
        x.out(0, 0, 0, 0, 0);
        x.out(3, 7, 0, 0, 2);
        due("tick(100)", x.tick(100), 2);
        due("count(1)", x.count(1), 120);
        due("count(2)", x.count(2), 4);
        x.out(0, 0, 0, 0, 0);
        String before = told(x);
        due("tick(0)", x.tick(0), OUTSIDE);
        due("tick(101)", x.tick(101), OUTSIDE);
        for (int n : WRONG) {
            due("tick", x.tick(n), OUTSIDE);
        }
        dueSame("a refused tick", x, before);
    }

    private static void promise8Drop() {
        BoxBindings x = new BoxBindings();
        x.out(0, 0, 0, 0, 0);
        x.out(1, 4, 0, 0, 0);
        x.out(1, 5, 0, 0, 0);
        x.out(1, 6, 0, 0, 0);
        x.out(3, 31, 0, 0, 0);
        String before = told(x);
        due("drop(2)", x.drop(2), 0);
        due("drop(4)", x.drop(4), UNKNOWN);
        for (int n : WRONG) {
            due("drop", x.drop(n), UNKNOWN);
        }
        dueSame("a refused drop", x, before);
        due("drop(1)", x.drop(1), 3);
        due("count(0)", x.count(0), 2);
        due("block(1)", x.block(1), NONE);
        due("drop(0)", x.drop(0), 1);
        due("drop(3)", x.drop(3), 1);
        due("drop(3) again", x.drop(3), 0);
    }

    private static void promise9Of() {
        BoxBindings x = new BoxBindings();
        x.rule(0, 2);
        x.out(2, 30, 3, 31, 0);
        int[] answers = {94, 0, 4, 1, 3, 31};
        for (int what = 0; what < 6; what++) {
            due("of(14, " + what + ")", x.of(14, what), answers[what]);
            due("of(13, " + what + ")", x.of(13, what), NONE);
        }
        x.tick(3);
        due("of(14, 2)", x.of(14, 2), 1);
        x.rule(3, 60);
        due("of(14, 2), the LIFE as it is then", x.of(14, 2), 57);
        x.rule(0, 1);
        x.out(2, 30, 3, 31, 0);
        x.out(2, 30, 3, 0, 0);
        x.out(2, 30, 3, 0, 0);
        due("of(14, 3)", x.of(14, 3), 2);
        due("of(14, 4)", x.of(14, 4), 3);
        due("of(14, 5)", x.of(14, 5), NONE);
        x.rule(0, 0);
        for (int port = 0; port < 32; port++) {
            for (int remote = 0; remote < 4; remote++) {
                x.out(0, 0, remote, port, 0);
            }
        }
        due("of(0, 3)", x.of(0, 3), 128);
        due("of(0, 4)", x.of(0, 4), NONE);
        due("outer first", x.of(16, 6), UNKNOWN);
        due("what", x.of(0, 6), OUTSIDE);
        due("what, not lent", x.of(5, 6), OUTSIDE);
        for (int n : WRONG) {
            due("outer", x.of(n, 0), UNKNOWN);
            due("what", x.of(0, n), OUTSIDE);
        }
        x.drop(0);
        x.out(0, 0, 1, 1, 0);
        due("of(0, 3), nothing is left of the one before", x.of(0, 3), 1);
    }

    private static void promise10Sent() {
        BoxBindings x = new BoxBindings();
        x.out(0, 0, 0, 31, 0);
        x.out(0, 0, 4, 15, 0);
        due("sent(0, 0, 31)", x.sent(0, 0, 31), 1);
        due("sent(0, 0, 30)", x.sent(0, 0, 30), 0);
        due("sent(0, 1, 31)", x.sent(0, 1, 31), 0);
        due("sent(0, 4, 15)", x.sent(0, 4, 15), 1);
        due("sent(0, 3, 15)", x.sent(0, 3, 15), 0);
        due("sent(1, 0, 31), not lent", x.sent(1, 0, 31), NONE);
        due("outer first", x.sent(16, 5, 32), UNKNOWN);
        due("remote", x.sent(1, 5, 0), OUTSIDE);
        due("its port", x.sent(1, 0, 32), OUTSIDE);
        due("its port of 4", x.sent(0, 4, 16), OUTSIDE);
        for (int n : WRONG) {
            due("outer", x.sent(n, 0, 0), UNKNOWN);
            due("remote", x.sent(0, n, 0), OUTSIDE);
            due("its port", x.sent(0, 0, n), OUTSIDE);
        }
        x.tick(4);
        due("sent(0, 0, 31), lapsed", x.sent(0, 0, 31), NONE);
    }

    private static void promise11Find() {
        BoxBindings x = new BoxBindings();
        x.out(1, 9, 2, 5, 0);
        due("find", x.find(1, 9, 0, 31), 9);
        due("find of another port", x.find(1, 25, 2, 5), NONE);
        due("find of another HOST", x.find(0, 9, 2, 5), NONE);
        x.rule(0, 1);
        x.out(1, 9, 2, 5, 0);
        due("find by MAPPING 1", x.find(1, 9, 2, 6), 9);
        due("find by MAPPING 1", x.find(1, 9, 1, 5), NONE);
        x.rule(0, 2);
        x.out(1, 9, 2, 5, 0);
        x.out(1, 9, 4, 15, 0);
        due("find by MAPPING 2", x.find(1, 9, 2, 5), 9);
        due("find by MAPPING 2", x.find(1, 9, 2, 6), NONE);
        due("find by MAPPING 2", x.find(1, 9, 4, 15), 8);
        due("host first", x.find(4, 32, 5, 32), UNKNOWN);
        due("port", x.find(0, 32, 0, 0), OUTSIDE);
        due("remote", x.find(0, 0, 5, 0), OUTSIDE);
        due("its port", x.find(0, 0, 0, 32), OUTSIDE);
        due("its port of 4", x.find(0, 0, 4, 16), OUTSIDE);
        for (int n : WRONG) {
            due("host", x.find(n, 0, 0, 0), UNKNOWN);
            due("port", x.find(0, n, 0, 0), OUTSIDE);
            due("remote", x.find(0, 0, n, 0), OUTSIDE);
            due("its port", x.find(0, 0, 0, n), OUTSIDE);
        }
    }

    private static void promise12Next() {
        BoxBindings x = new BoxBindings();
        for (int port = 0; port < 32; port++) {
            due("next(2, " + port + ")", x.next(2, port), port % 16);
        }
        x.out(2, 11, 0, 0, 0);
        due("next, LIKE of a BLOCK of it", x.next(2, 26), 10);
        due("next, LIKE is lent", x.next(2, 27), 8);
        due("next, LIKE of nobody's BLOCK", x.next(2, 0), 8);
        due("next, for what has a BINDING", x.next(2, 11), 8);
        due("next, LIKE of another's BLOCK", x.next(1, 10), 0);
        x.rule(2, 1);
        due("next by PARITY 1", x.next(2, 13), 9);
        due("next by PARITY 1", x.next(2, 12), 8);
        due("next by PARITY 1", x.next(1, 9), 1);
        due("next by PARITY 1", x.next(1, 8), 0);
        x.out(2, 9, 0, 0, 0);
        due("next by PARITY 1, a new BLOCK", x.next(2, 15), 15);
        due("next by PARITY 1, a new BLOCK", x.next(2, 27), 1);
        x.out(0, 0, 0, 0, 0);
        x.out(1, 4, 0, 0, 0);
        due("next, the least BLOCK", x.next(2, 1), 13);
        x.out(3, 12, 0, 0, 0);
        due("next, run out by PARITY 1", x.next(2, 1), NONE);
        due("next by PARITY 1", x.next(2, 0), 8);
        x.rule(2, 0);
        due("next by PARITY 0", x.next(2, 1), 8);
        String before = told(x);
        due("host first", x.next(4, 32), UNKNOWN);
        due("port", x.next(0, 32), OUTSIDE);
        for (int n : WRONG) {
            due("host", x.next(n, 0), UNKNOWN);
            due("port", x.next(0, n), OUTSIDE);
        }
        dueSame("next", x, before);
    }

    private static void promise13Why() {
        BoxBindings x = new BoxBindings();
        x.out(0, 0, 1, 31, 0);
        due("why by FILTER 0", x.why(3, 3, 0), 0);
        due("why, not lent", x.why(1, 31, 1), 1);
        x.rule(1, 1);
        due("why by FILTER 1", x.why(1, 0, 0), 0);
        due("why by FILTER 1", x.why(0, 31, 0), 2);
        due("why by FILTER 1, not lent", x.why(0, 31, 1), 1);
        x.rule(1, 2);
        due("why by FILTER 2", x.why(1, 31, 0), 0);
        due("why by FILTER 2", x.why(1, 30, 0), 2);
        due("why by FILTER 2, not lent", x.why(1, 30, 15), 1);
        String before = told(x);
        due("remote first", x.why(5, 0, 16), OUTSIDE);
        due("its port first", x.why(0, 32, 16), OUTSIDE);
        due("its port of 4 first", x.why(4, 16, 16), OUTSIDE);
        due("outer", x.why(4, 15, 16), UNKNOWN);
        for (int n : WRONG) {
            due("remote", x.why(n, 0, 0), OUTSIDE);
            due("its port", x.why(0, n, 0), OUTSIDE);
            due("outer", x.why(0, 0, n), UNKNOWN);
        }
        dueSame("why", x, before);
    }

    private static void promise14Block() {
        BoxBindings x = new BoxBindings();
        x.out(3, 7, 0, 0, 0);
        x.tick(1);
        x.out(0, 12, 0, 0, 0);
        due("block(0)", x.block(0), NONE);
        due("block(1)", x.block(1), 3);
        due("block(2)", x.block(2), NONE);
        due("block(3)", x.block(3), 0);
        x.tick(3);
        due("block(1), lapsed", x.block(1), NONE);
        due("block(3)", x.block(3), 0);
        x.out(2, 7, 0, 0, 0);
        due("block(1), another's now", x.block(1), 2);
        due("block(4)", x.block(4), UNKNOWN);
        for (int n : WRONG) {
            due("block", x.block(n), UNKNOWN);
        }
    }

    private static void promise15Host() {
        BoxBindings x = new BoxBindings();
        due("host(0, 2)", x.host(0, 2), 16);
        due("host(0, 3)", x.host(0, 3), 16);
        x.out(0, 0, 0, 0, 0);
        x.out(0, 2, 0, 0, 0);
        x.out(0, 1, 0, 0, 0);
        x.out(1, 15, 0, 0, 0);
        due("host(0, 0)", x.host(0, 0), 3);
        due("host(0, 1)", x.host(0, 1), 1);
        due("host(0, 2)", x.host(0, 2), 9);
        due("host(0, 3)", x.host(0, 3), 9);
        due("host(1, 1)", x.host(1, 1), 8);
        due("host(2, 1)", x.host(2, 1), 0);
        due("host(2, 2)", x.host(2, 2), 8);
        x.rule(2, 1);
        due("host(0, 2) by PARITY 1", x.host(0, 2), 4);
        due("host(0, 3) by PARITY 1", x.host(0, 3), 5);
        due("host(1, 2) by PARITY 1", x.host(1, 2), 6);
        due("host(1, 3) by PARITY 1", x.host(1, 3), 5);
        due("host(2, 3) by PARITY 1", x.host(2, 3), 4);
        x.out(0, 3, 0, 0, 0);
        x.out(0, 9, 0, 0, 0);
        due("host(0, 1), a set", x.host(0, 1), 5);
        due("host first", x.host(4, 4), UNKNOWN);
        due("what", x.host(0, 4), OUTSIDE);
        for (int n : WRONG) {
            due("host", x.host(n, 0), UNKNOWN);
            due("what", x.host(0, n), OUTSIDE);
        }
        hostForetellsOuts();
    }

    /** How many more could be made is how many then are made. */
    private static void hostForetellsOuts() {
        for (int parity = 0; parity < 2; parity++) {
            for (int odd = 0; odd < 2; odd++) {
                BoxBindings x = new BoxBindings();
                x.out(0, 30, 0, 0, 0);
                x.out(1, 21, 0, 0, 0);
                x.out(1, 30, 0, 0, 0);
                x.rule(2, parity);
                int foretold = x.host(1, 2 + odd);
                int before = x.count(0);
                for (int port = odd; port < 32; port += 2) {
                    x.out(1, port, 0, 0, 0);
                }
                due("host(1, " + (2 + odd) + ") by PARITY " + parity, foretold, x.count(0) - before);
            }
        }
    }

    private static void promise16Soon() {
        BoxBindings x = new BoxBindings();
        due("soon()", x.soon(), NONE);
        x.out(0, 0, 0, 0, 0);
        x.in(0, 0, 0, 0);
        due("soon()", x.soon(), 20);
        x.tick(5);
        due("soon()", x.soon(), 15);
        x.out(0, 1, 0, 0, 0);
        due("soon()", x.soon(), 4);
        x.out(1, 1, 0, 0, 2);
        due("soon()", x.soon(), 2);
        x.rule(5, 60);
        due("soon()", x.soon(), 4);
        x.rule(4, 6);
        due("soon()", x.soon(), 1);
        due("tick(1)", x.tick(1), 1);
        due("soon()", x.soon(), 3);
    }

    private static void promise17And18Images() {
        BoxBindings x = new BoxBindings();
        due("restore(0)", x.restore(0), STATE);
        due("restore(2)", x.restore(2), OUTSIDE);
        due("image(2)", x.image(2), OUTSIDE);
        for (int n : WRONG) {
            due("image", x.image(n), OUTSIDE);
            due("restore", x.restore(n), OUTSIDE);
        }
        due("count(5)", x.count(5), 0);
        fillForImage(x);
        due("image(0)", x.image(0), 1);
        due("restore(1)", x.restore(1), STATE);
        due("count(5)", x.count(5), 1);
        x.image(1);
        String full = told(x);
        x.tick(2);
        x.rule(0, 1);
        x.rule(1, 1);
        x.rule(2, 0);
        x.out(3, 3, 3, 3, 0);
        x.out(3, 3, 2, 3, 0);
        x.part(2, 7, 0, 0, 3);
        x.part(2, 6, 5, 0, 0);
        String later = told(x);
        due("image(1), in place of the first", x.image(1), 1);
        due("restore(0)", x.restore(0), 1);
        dueSame("restore(0), as it was", x, full);
        due("part 1 goes on, as KNOWN then", x.part(2, 1, 1, 0, 0), 1);
        due("part 0, with what was HELD then", x.part(3, 2, 0, 4, 1), 2);
        x.drop(0);
        due("restore(1)", x.restore(1), 1);
        dueSame("restore(1), as it was", x, later);
        due("count(5)", x.count(5), 3);
        due("restore(0), the IMAGE stays", x.restore(0), 1);
        dueSame("restore(0) again", x, full);
        due("tick(2)", x.tick(2), 0);
        due("count(4), KNOWN as since then", x.count(4), 1);
        due("count(3), HELD as since then", x.count(3), 1);
        due("tick(1)", x.tick(1), 0);
        due("count(4)", x.count(4), 0);
        due("count(3)", x.count(3), 0);
        due("restore(0)", x.restore(0), 1);
        due("tick(4)", x.tick(4), 1);
        imagesKeepEachNumber();
        imagesKeepWhichAreKept();
    }

    private static void fillForImage(BoxBindings x) {
        x.rule(0, 2);
        x.rule(1, 2);
        x.rule(2, 1);
        x.rule(3, 6);
        x.rule(4, 30);
        x.rule(5, 9);
        x.tick(100);
        x.out(0, 5, 1, 7, 0);
        x.out(0, 9, 3, 4, 2);
        x.out(1, 8, 2, 31, 0);
        x.in(2, 31, 8, 0);
        x.part(2, 1, 0, 31, x.find(1, 8, 2, 31));
        x.part(3, 2, 6, 0, 0);
        x.tick(2);
        x.out(0, 9, 3, 4, 1);
        x.out(0, 9, 3, 4, 2);
        due("find", x.find(0, 9, 3, 4), 7);
        x.out(2, 9, 3, 4, 0);
        due("find", x.find(2, 9, 3, 4), 1);
    }

    /** All of a BINDING, and since when packets are KNOWN and PARTS HELD, is kept. */
    private static void imagesKeepEachNumber() {
        BoxBindings x = new BoxBindings();
        x.rule(0, 2);
        x.tick(10);
        x.out(0, 0, 1, 7, 0);
        x.out(3, 31, 3, 31, 0);
        x.in(3, 31, 15, 0);
        x.part(3, 0, 0, 31, 15);
        x.part(3, 1, 1, 0, 0);
        x.image(0);
        x.tick(3);
        x.drop(0);
        x.drop(3);
        x.out(0, 0, 2, 9, 2);
        x.out(3, 31, 0, 1, 0);
        x.part(3, 0, 0, 31, 15);
        x.tick(2);
        x.part(3, 1, 1, 0, 0);
        due("restore(0)", x.restore(0), 1);
        int[] first = {0, 0, 4, 1, 1, 7};
        int[] last = {127, 1, 20, 1, 3, 31};
        for (int what = 0; what < 6; what++) {
            due("of(0, " + what + ")", x.of(0, what), first[what]);
            due("of(15, " + what + ")", x.of(15, what), last[what]);
        }
        due("sent(0, 1, 7)", x.sent(0, 1, 7), 1);
        due("sent(0, 2, 9)", x.sent(0, 2, 9), 0);
        due("sent(15, 3, 31)", x.sent(15, 3, 31), 1);
        due("sent(15, 0, 1)", x.sent(15, 0, 1), 0);
        x.tick(4);
        due("count(3), still at 4", x.count(3), 1);
        due("count(4), still at 4", x.count(4), 1);
        x.tick(1);
        due("count(3), no more at 5", x.count(3), 0);
        due("count(4), no more at 5", x.count(4), 0);
    }

    /** What IMAGES are kept is no part of an IMAGE. */
    private static void imagesKeepWhichAreKept() {
        BoxBindings x = new BoxBindings();
        x.image(1);
        due("count(5)", x.count(5), 2);
        x.image(0);
        due("count(5)", x.count(5), 3);
        x.restore(1);
        due("count(5)", x.count(5), 3);
        due("restore(0)", x.restore(0), 1);
    }

    private static void promise19Count() {
        BoxBindings x = new BoxBindings();
        x.out(0, 0, 0, 0, 0);
        x.out(0, 16, 0, 0, 0);
        x.out(1, 16, 0, 0, 0);
        x.part(0, 0, 1, 0, 0);
        x.part(0, 0, 2, 0, 0);
        x.part(1, 0, 2, 0, 0);
        x.part(3, 7, 0, 0, 1);
        x.part(2, 7, 0, 0, 1);
        x.tick(3);
        due("count(0)", x.count(0), 3);
        due("count(1)", x.count(1), 3);
        due("count(2)", x.count(2), 2);
        due("count(3)", x.count(3), 3);
        due("count(4)", x.count(4), 2);
        x.rule(0, 2);
        x.rule(1, 1);
        x.rule(2, 1);
        x.rule(3, 33);
        x.rule(4, 44);
        x.rule(5, 55);
        int[] rules = {2, 1, 1, 33, 44, 55};
        for (int i = 0; i < 6; i++) {
            due("count(1" + i + ")", x.count(10 + i), rules[i]);
        }
        for (int what : new int[] {6, 7, 8, 9, 16, 17}) {
            due("count(" + what + ")", x.count(what), OUTSIDE);
        }
        for (int n : WRONG) {
            due("count", x.count(n), OUTSIDE);
        }
    }

    public static void main(String[] args) {
        where = "promise 1";
        promise1NewObject();
        where = "promise 2";
        promise2Rule();
        where = "promise 3";
        promise3Out();
        mappings();
        where = "promise 4";
        promise4In();
        where = "promise 5";
        promise5Turn();
        where = "promise 6";
        promise6Part();
        where = "promise 7";
        promise7Tick();
        where = "promise 8";
        promise8Drop();
        where = "promise 9";
        promise9Of();
        where = "promise 10";
        promise10Sent();
        where = "promise 11";
        promise11Find();
        where = "promise 12";
        promise12Next();
        where = "promise 13";
        promise13Why();
        where = "promise 14";
        promise14Block();
        where = "promise 15";
        promise15Host();
        where = "promise 16";
        promise16Soon();
        where = "promises 17 and 18";
        promise17And18Images();
        where = "promise 19";
        promise19Count();
        System.out.println(wrong == 0 ? "all answers are as due" : wrong + " answers are not as due");
        if (wrong != 0) {
            System.exit(1);
        }
    }
}
