/** Promises 29 to 32 (kind, as, ask, trace), and 34 (status) of as. */
public final class AskedTest {
    private static final int KIND = -1000013;
    private static final Check check = new Check("AskedTest");

    public static void main(String[] args) {
        kinds();
        asKinds();
        statusOfAs();
        bodies();
        refused();
        check.end();
    }

    private static void kinds() {
        NicheSaints x = Check.of("r9;o1;h2;p3;s4;g5;");
        for (int i = 0; i < 5; i++) {
            check.due("kind(" + i + ")", x.kind(i), 5 - i);
        }
        check.due("kind(5)", x.kind(5), NicheSaints.BAD);
        check.due("kind(-1)", x.kind(-1), NicheSaints.BAD);
    }

    private static void asKinds() {
        NicheSaints x = Check.of("r9;g1;s2;p3;h4;o5;");
        boolean[][] is = {
            {true, true, false, false, false, false},
            {true, true, true, false, false, false},
            {true, true, false, true, false, false},
            {true, false, false, false, true, false},
            {true, false, false, false, true, true},
        };
        for (int i = 0; i < 5; i++) {
            for (int kind = 0; kind <= 5; kind++) {
                check.due("as(" + i + ", " + kind + ")", x.as(i, kind), is[i][kind] ? i : KIND);
                check.due("status()", x.status(), is[i][kind] ? 0 : 3);
            }
        }
        check.due("kind(4) stays", x.kind(4), 5);
    }

    private static void statusOfAs() {
        NicheSaints x = Check.of("r9;g1;s2;");
        check.due("as(0, 5)", x.as(0, 5), KIND);
        check.due("as(2, 5)", x.as(2, 5), NicheSaints.BAD);
        check.due("as(-1, 0)", x.as(-1, 0), NicheSaints.BAD);
        check.due("as(0, 6)", x.as(0, 6), NicheSaints.BAD);
        check.due("as(0, -1)", x.as(0, -1), NicheSaints.BAD);
        check.due("status() of the one that was not BAD", x.status(), 3);
        x.steps(1);
        x.kind(0);
        x.ask(0, 0);
        x.undo();
        check.due("status(): calls without a ROW change nothing", x.status(), 3);
        check.due("as(0, 0)", x.as(0, 0), 0);
        check.due("status()", x.status(), 0);
    }

    private static void ask(NicheSaints x, int saint, int what, int answer, int... trace) {
        String call = "ask(" + saint + ", " + what + ")";
        check.due(call, x.ask(saint, what), answer);
        for (int i = 0; i < trace.length; i++) {
            check.due("trace(" + i + ") behind " + call, x.trace(i), trace[i]);
        }
        check.due("the end of the trace behind " + call, x.trace(trace.length), NicheSaints.NONE);
    }

    private static void bodies() {
        NicheSaints x = Check.of("r9;g0;g5;s7;p2;h0;h3;o4;");
        ask(x, 0, 0, 2, 11, 10, 21, 20);
        ask(x, 1, 0, 5 + 1 + 2, 11, 10, 21, 20);
        ask(x, 1, 1, 3, 21, 20);
        ask(x, 2, 0, -(7 + 2 * (2 + 2)), 12, 11, 10, 24, 21, 20);
        ask(x, 2, 1, 8, 24, 21, 20);
        ask(x, 3, 0, 2 + 3 + 2 - 1000, 11, 10, 22, 21, 20);
        ask(x, 3, 1, 5 - 1000, 22, 21, 20);
        ask(x, 4, 0, -100, 13, 10);
        ask(x, 4, 1, 104, 23, 20, 13, 10);
        ask(x, 5, 0, -97, 13, 10);
        ask(x, 5, 1, 102, 23, 20, 13, 10);
        ask(x, 6, 0, -192, 14, 13, 10);
        ask(x, 6, 1, 198, 23, 20, 14, 13, 10);
        x.swap(0, 1);
        ask(x, 0, 0, 5 + 0 + 2, 11, 10, 21, 20);
    }

    private static void refused() {
        NicheSaints x = Check.of("r9;h1;o2;");
        ask(x, 0, 0, -99, 13, 10);
        check.due("ask(2, 0)", x.ask(2, 0), NicheSaints.BAD);
        check.due("ask(-1, 0)", x.ask(-1, 0), NicheSaints.BAD);
        check.due("ask(0, 2)", x.ask(0, 2), NicheSaints.BAD);
        check.due("ask(0, -1)", x.ask(0, -1), NicheSaints.BAD);
        check.due("trace(0) stays", x.trace(0), 13);
        check.due("trace(1) stays", x.trace(1), 10);
        check.due("trace(-1)", x.trace(-1), NicheSaints.NONE);
        check.due("trace(2)", x.trace(2), NicheSaints.NONE);
        check.due("trace(16)", x.trace(16), NicheSaints.NONE);
        check.due("trace(MAX)", x.trace(Integer.MAX_VALUE), NicheSaints.NONE);
        Check.read(x, "r9;g1;g2;");
        check.due("trace(0) stays when others are read", x.trace(0), 13);
    }
}
