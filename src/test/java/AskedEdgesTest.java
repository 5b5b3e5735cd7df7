/** The edges of KINDS, ASKS and THE TRACE (Terms, parts 3 and 4; promises 29 to 32), of count (33) and status (34). */
public final class AskedEdgesTest {
    private static final int NONE = NicheSaints.NONE, BAD = NicheSaints.BAD;
    private static final int NULL = -1000011, PLACE = -1000012, KIND = -1000013, SIZE = -1000014, STORE = -1000015;
    private static final Check check = new Check("AskedEdgesTest");

    public static void main(String[] args) {
        kinds();
        taken();
        asks();
        lent();
        traceEmptyAhead();
        traceEnds();
        nothingElse();
        counts();
        statusAtFirst();
        statusOfEachFinding();
        statusOfEachCall();
        statusStays();
        check.end();
    }

    private static void kinds() {
        check.of("Promise 29", "The KIND of a SAINT, as told (1 to 5)");
        NicheSaints x = Check.of("r9;o0;h0;p0;s0;g0;g1;o2;");
        int[] due = {5, 4, 3, 2, 1, 1, 5};
        for (int i = 0; i < 7; i++) {
            check.due("kind(" + i + ")", x.kind(i), due[i]);
        }
        check.due("kind(-1)", x.kind(-1), BAD);
        check.due("kind(7)", x.kind(7), BAD);
        x.steps(3);
        x.swap(0, 6);
        check.due("kind(0): THINGS go, KINDS stay", x.kind(0), 5);
    }

    private static void taken() {
        check.of("Promise 30", "A SAINT is taken as one of a KIND (0 .. 5): its number .. KIND: it is no such one");
        NicheSaints x = Check.of("r9;g0;g0;g1;s2;p3;h4;o5;");
        String[] is = {"110000", "111000", "110100", "100010", "100011"};
        for (int saint = 2; saint <= 6; saint++) {
            for (int kind = 0; kind <= 5; kind++) {
                boolean so = is[saint - 2].charAt(kind) == '1';
                check.due("as(" + saint + ", " + kind + ")", x.as(saint, kind), so ? saint : KIND);
                check.due("status()", x.status(), so ? 0 : 3);
            }
        }
        check.due("as(0, 0): the first", x.as(0, 0), 0);
        check.due("as(7, 0)", x.as(7, 0), BAD);
        check.due("as(-1, 0)", x.as(-1, 0), BAD);
        check.due("as(0, -1)", x.as(0, -1), BAD);
        check.due("as(0, 6)", x.as(0, 6), BAD);
    }

    private static void ask(NicheSaints x, int saint, int what, int answer, int... trace) {
        String call = "ask(" + saint + ", " + what + ")";
        check.due(call, x.ask(saint, what), answer);
        for (int i = 0; i < 16; i++) {
            check.due("trace(" + i + ") behind " + call, x.trace(i), i < trace.length ? trace[i] : NONE);
        }
    }

    private static void asks() {
        check.of("Terms 4", "the BODY told for the KIND begins, else that of the nearest KIND that it is, too");
        NicheSaints none = Check.of("r9;g0;s0;p0;h0;o0;");
        ask(none, 0, 0, 5, 11, 10, 21, 20);
        ask(none, 0, 1, 5, 21, 20);
        ask(none, 1, 0, -12, 12, 11, 10, 24, 21, 20);
        ask(none, 1, 1, 12, 24, 21, 20);
        ask(none, 2, 0, -993, 11, 10, 22, 21, 20);
        ask(none, 2, 1, -993, 22, 21, 20);
        ask(none, 3, 0, -100, 13, 10);
        ask(none, 3, 1, 103, 23, 20, 13, 10);
        ask(none, 4, 0, -200, 14, 13, 10);
        ask(none, 4, 1, 204, 23, 20, 14, 13, 10);
        check.of("Terms 4", "how many have none (nobody)");
        NicheSaints all = Check.of("r9;g9;s8;p7;h6;o5;");
        ask(all, 0, 0, 9, 11, 10, 21, 20);
        ask(all, 0, 1, 0, 21, 20);
        ask(all, 1, 0, -10, 12, 11, 10, 24, 21, 20);
        ask(all, 2, 0, -991, 11, 10, 22, 21, 20);
        ask(all, 3, 1, 97, 23, 20, 13, 10);
        ask(all, 4, 0, -190, 14, 13, 10);
        ask(all, 4, 1, 194, 23, 20, 14, 13, 10);
    }

    private static void lent() {
        check.of("Terms 4", "10 lent to all SAINTS: the THING .. 20 lent to all SAINTS: the number");
        NicheSaints x = Check.of("r9;h1;h2;h3;h4;h5;h6;h9;");
        ask(x, 6, 0, -91, 13, 10);
        ask(x, 6, 1, 97, 23, 20, 13, 10);
        x.swap(0, 6);
        ask(x, 6, 0, -99, 13, 10);
    }

    private static void traceEmptyAhead() {
        check.of("Promise 31", "THE TRACE is empty ahead of it");
        NicheSaints x = Check.of("r9;s1;h2;");
        check.due("trace(0) ahead of an ask", x.trace(0), NONE);
        ask(x, 0, 0, -1, 12, 11, 10, 24, 21, 20);
        ask(x, 1, 0, -98, 13, 10);
        check.of("Promise 31", "(what is refused changes nothing)");
        check.due("ask(2, 0)", x.ask(2, 0), BAD);
        check.due("ask(0, 2)", x.ask(0, 2), BAD);
        check.due("trace(0)", x.trace(0), 13);
        check.due("trace(1)", x.trace(1), 10);
        check.due("trace(2)", x.trace(2), NONE);
    }

    private static void traceEnds() {
        check.of("Promise 32", "Number i of THE TRACE; NONE");
        NicheSaints x = Check.of("r9;s1;h2;");
        x.ask(0, 0);
        check.due("trace(5): the last", x.trace(5), 20);
        for (int i : new int[] {6, 15, 16, 17, -1, Integer.MAX_VALUE, Integer.MIN_VALUE}) {
            check.due("trace(" + i + ")", x.trace(i), NONE);
        }
        check.due("trace(0): the first", x.trace(0), 12);
    }

    private static void nothingElse() {
        check.of("Terms 4", "ASKS (all else stays)");
        NicheSaints x = Check.of("r9;s1;h2;");
        x.steps(2);
        x.as(1, 1);
        x.ask(0, 0);
        x.ask(1, 1);
        int[] counts = {0, 2, 2, 9, 12, 0, 2, 0};
        for (int what = 0; what <= 7; what++) {
            check.due("count(" + what + ")", x.count(what), counts[what]);
        }
        check.due("status()", x.status(), 3);
        check.of("Promise 32", "(what is left stays, whatever else is called)");
        x.undo();
        Check.read(x, "r1;g0;g0;");
        x.image(0);
        x.restore(0);
        check.due("trace(0)", x.trace(0), 23);
        check.due("trace(3)", x.trace(3), 10);
        check.due("trace(4)", x.trace(4), NONE);
    }

    private static void counts() {
        check.of("Promise 33", "How many: 0 ROWS .. 7 bytes on the tape. BAD");
        NicheSaints x = new NicheSaints();
        for (int what = 0; what <= 7; what++) {
            check.due("count(" + what + ") of a new object", x.count(what), 0);
        }
        for (int row = 0; row < 8; row++) {
            x.row(row, row % 3, row);
        }
        Check.read(x, "r9;g9;g8;g7;g6;g5;g4;g3;");
        x.steps(24);
        x.steps(12);
        Check.feed(x, "r".repeat(50));
        int[] most = {8, 7, 36, 9, 9876543, 0, 24, 50};
        for (int what = 0; what <= 7; what++) {
            check.due("count(" + what + ")", x.count(what), most[what]);
        }
        check.due("count(-1)", x.count(-1), BAD);
        check.due("count(8)", x.count(8), BAD);
        check.of("Promise 33", "4 who has what, as figures, SAINT 0 first, 5 how many have none");
        check.due("count(4): 0 ahead", Check.of("r1;g0;g0;g1;g0;").count(4), 10);
        check.due("count(5)", Check.of("r1;g0;g0;g1;g0;").count(5), 3);
        check.due("count(4): nothing", Check.of("r1;g0;g0;g0;g0;g0;g0;g0;").count(4), 0);
        check.due("count(5): all", Check.of("r1;g0;g0;g0;g0;g0;g0;g0;").count(5), 7);
    }

    private static void statusAtFirst() {
        check.of("Promise 34", "0: it had none, or there was none");
        NicheSaints x = new NicheSaints();
        check.due("status() of a new object", x.status(), 0);
        x.row(8, 0, 1);
        x.set(-1, 0, 1);
        x.swaps(0, 0, 0);
        x.as(0, 0);
        check.due("status() behind BAD and STATE alone", x.status(), 0);
        x.drop(0);
        check.due("status()", x.status(), 1);
        x.row(0, 0, 1);
        check.due("status()", x.status(), 0);
    }

    private static void statusOfEachFinding() {
        check.of("Terms", "-1000010 less 1 NULL, 2 PLACE, 3 KIND, 4 SIZE, 5 STORE");
        NicheSaints x = Check.of("r9;g1;g2;");
        x.row(1, 1, 1);
        x.row(2, 2, 1);
        check.due("NULL", x.set(0, 0, 0), NULL);
        check.due("status()", x.status(), 1);
        check.due("PLACE", x.set(1, 1, 0), PLACE);
        check.due("status()", x.status(), 2);
        check.due("KIND", x.as(0, 4), KIND);
        check.due("status()", x.status(), 3);
        check.due("SIZE", x.row(1, 0, -1), SIZE);
        check.due("status()", x.status(), 4);
        check.due("STORE", x.copy(1, 0, 2, 0, 1), STORE);
        check.due("status()", x.status(), 5);
        check.due("status() is not used up", x.status(), 5);
    }

    private static NicheSaints withFinding() {
        NicheSaints x = Check.of("r9;g1;g2;");
        x.row(0, 2, 3);
        x.set(0, 0, 2);
        x.set(0, 1, 1);
        x.as(0, 4);
        check.due("status() ahead", x.status(), 3);
        return x;
    }

    /** Each call with a ROW, and as(), once without a FINDING: 0 then, of an answer of NONE, too. */
    private static void statusOfEachCall() {
        check.of("Promise 34", "Of the latest call with a ROW, or as(): the number of its FINDING; 0: it had none");
        Twins.Call[] calls = {x -> x.row(1, 0, 0), x -> x.set(0, 0, 0), x -> x.copy(0, 0, 0, 0, 0), x -> x.drop(0),
            x -> x.swaps(0, 0, 0), x -> x.swaps(0, 1, 0), x -> x.sort(0, 0, -1), x -> x.sort(0, 0, 9),
            x -> x.sort(0, 1, 0), x -> x.fits(0, 0, 0, 1, 0), x -> x.fits(0, 0, 0, 3, 1), x -> x.began(0, 0, 0, 1, 0),
            x -> x.began(0, 0, 0, 3, 1), x -> x.as(0, 1)};
        for (int c = 0; c < calls.length; c++) {
            NicheSaints x = withFinding();
            calls[c].on(x);
            check.due("status() behind call " + c, x.status(), 0);
        }
        check.of("Promise 34", "the number of its FINDING");
        Twins.Call[] found = {x -> x.row(1, 0, -1), x -> x.set(0, 3, 0), x -> x.copy(0, 0, 0, 3, 1), x -> x.drop(7),
            x -> x.swaps(0, 2, 0), x -> x.sort(7, 0, -1), x -> x.fits(0, 0, 3, 1, 0), x -> x.began(0, 7, 0, 1, 0)};
        int[] numbers = {4, 2, 2, 1, 2, 1, 2, 1};
        for (int c = 0; c < found.length; c++) {
            NicheSaints x = withFinding();
            check.due("call " + c, found[c].on(x), -1000010 - numbers[c]);
            check.due("status() behind call " + c, x.status(), numbers[c]);
        }
    }

    /** Calls without a ROW leave it, whatever they answer; so do refusals of those with one. */
    private static void statusStays() {
        check.of("Promise 34", "the latest call with a ROW, or as(), that was not BAD, STATE, FULL");
        Twins.Call[] calls = {x -> x.feed('r'), x -> x.feed(256), x -> x.saints(), x -> Check.read(x, "r1;g1;g2;"),
            x -> x.fault(), x -> x.steps(1), x -> x.steps(0), x -> x.swap(0, 1), x -> x.swap(0, 0), x -> x.night(1),
            x -> x.night(0), x -> x.undo(), x -> x.saint(0, 0), x -> x.saint(9, 0), x -> x.holder(1), x -> x.holder(0),
            x -> x.ahead(0, 1), x -> x.ahead(9, 1), x -> x.when(0, 9), x -> x.pray(9), x -> x.round(), x -> x.home(1),
            x -> x.home(3), x -> x.plan(0, 9, 0), x -> x.plan(9, 1, 0), x -> x.sleep(0, 1, 1, 0),
            x -> x.sleep(0, 1, 11, 0),
            x -> x.drawn(1, 1, 0), x -> x.drawn(61, 1, 0), x -> x.image(0), x -> x.image(2), x -> x.restore(0),
            x -> x.image(0) + x.restore(0), x -> x.kind(0), x -> x.kind(9), x -> x.ask(0, 0), x -> x.ask(9, 0),
            x -> x.trace(0), x -> x.trace(99), x -> x.count(0), x -> x.count(8), x -> x.status(),
            x -> x.row(8, 0, 1), x -> x.row(0, 3, 1), x -> x.row(0, 0, 41), x -> x.set(8, 0, 0),
            x -> x.copy(0, 0, 8, 0, 1), x -> x.drop(8), x -> x.swaps(8, 0, 0), x -> x.swaps(0, 0, 2),
            x -> x.sort(0, 0, -2), x -> x.fits(9, 0, 0, 1, 0), x -> x.began(0, 0, 0, 13, 0), x -> x.as(9, 0),
            x -> x.as(0, 6)};
        for (int c = 0; c < calls.length; c++) {
            NicheSaints x = withFinding();
            calls[c].on(x);
            check.due("status() behind call " + c, x.status(), 3);
        }
        NicheSaints nobody = new NicheSaints();
        nobody.row(0, 0, -1);
        check.due("swaps(0, 0, 0)", nobody.swaps(0, 0, 0), NicheSaints.STATE);
        check.due("sort(0, 0, 0)", nobody.sort(0, 0, 0), NicheSaints.STATE);
        check.due("status()", nobody.status(), 4);
    }
}
