/**
 * "What is refused, or found, changes nothing but status()": each refusal of each call, on both sides of what is
 * taken, and behind it all that can be asked is as it was. Which refusal is first stands in FirstRefusalTest.
 */
public final class RefusedTest {
    private static final int BAD = NicheSaints.BAD, STATE = NicheSaints.STATE, FULL = NicheSaints.FULL;
    private static final int NULL = 1, PLACE = 2, KIND = 3, SIZE = 4, STORE = 5;
    private static final Check check = new Check("RefusedTest");

    private static final Twins fresh = new Twins(check, "a new object", x -> { });
    private static final Twins nobody = new Twins(check, "no SAINTS", RefusedTest::nobody);
    private static final Twins some = new Twins(check, "SAINTS", RefusedTest::some);
    private static final Twins fullTape = new Twins(check, "a full tape", RefusedTest::fullTape);
    private static final Twins manyActs = new Twins(check, "ACTS forgotten", RefusedTest::manyActs);
    private static final Twins late = new Twins(check, "STEP 9984", RefusedTest::late);
    private static final Twins atEnd = new Twins(check, "STEP 9999", RefusedTest::atEnd);

    public static void main(String[] args) {
        rows();
        copies();
        texts();
        faults();
        steps();
        byHand();
        toldOfSaints();
        foretold();
        goals();
        clues();
        chances();
        images();
        asked();
        check.end();
    }

    private static void threeRows(NicheSaints x) {
        for (int row = 0; row < 3; row++) {
            x.row(row, row, 4);
            x.set(row, 0, 1);
            x.set(row, 1, 2);
            x.set(row, 2, 0);
        }
        x.row(3, 0, 0);
    }

    /** ROWS, a FAULT 2, half a text on the tape, FINDING 2. */
    private static void nobody(NicheSaints x) {
        threeRows(x);
        Check.read(x, "r0;");
        Check.feed(x, "r4;g1;s");
        x.set(0, 4, 0);
    }

    /** Five SAINTS with ACTS and an IMAGE, ROWS, a FAULT 2, half a text on the tape, a TRACE, FINDING 3. */
    private static void some(NicheSaints x) {
        behindFault(x, "r10;");
        Check.feed(x, "r4;g1;s");
    }

    /** Likewise, with an empty tape and the FAULT of a text that was read ahead of the SAINTS. */
    private static void behindFault(NicheSaints x, String text) {
        Check.read(x, text);
        threeRows(x);
        Check.read(x, "r3;g1;s2;p0;h4;o0;");
        x.steps(2);
        x.image(0);
        x.swap(0, 3);
        x.night(5);
        x.ask(1, 0);
        x.as(0, 5);
    }

    private static void fullTape(NicheSaints x) {
        some(x);
        Check.feed(x, "9;".repeat(21) + "x");
    }

    private static void manyActs(NicheSaints x) {
        some(x);
        for (int i = 0; i < 10; i++) {
            x.steps(1 + i % 2);
            x.swap(i % 5, (i + 1) % 5);
            x.night(1 + i % 9);
        }
    }

    private static void late(NicheSaints x) {
        Check.read(x, "r7;g1;s2;g3;o0;");
        for (int i = 0; i < 416; i++) {
            x.steps(24);
        }
    }

    private static void atEnd(NicheSaints x) {
        late(x);
        x.steps(15);
    }

    private static void rows() {
        check.of("Promise 2", "BAD: ROW, LANE, n above 40; SIZE");
        for (int row : Check.beside(0, 7)) {
            some.refused("row(" + row + ", 0, 1)", x -> x.row(row, 0, 1), BAD);
        }
        for (int lane : Check.beside(0, 2)) {
            some.refused("row(0, " + lane + ", 1)", x -> x.row(0, lane, 1), BAD);
        }
        for (int n : new int[] {41, Integer.MAX_VALUE}) {
            some.refused("row(0, 1, " + n + ")", x -> x.row(0, 1, n), BAD);
        }
        for (int n : new int[] {-1, Integer.MIN_VALUE}) {
            some.found("row(0, 1, " + n + ")", x -> x.row(0, 1, n), SIZE);
            some.found("row(7, 1, " + n + ") of a missing one", x -> x.row(7, 1, n), SIZE);
        }
        check.of("Promise 3", "BAD: ROW; NULL; PLACE");
        for (int row : Check.beside(0, 7)) {
            some.refused("set(" + row + ", 0, 2)", x -> x.set(row, 0, 2), BAD);
        }
        some.found("set(7, 0, 2)", x -> x.set(7, 0, 2), NULL);
        for (int i : Check.beside(0, 3)) {
            some.found("set(0, " + i + ", 2)", x -> x.set(0, i, 2), PLACE);
        }
        for (int i : new int[] {Integer.MIN_VALUE, -1, 0, Integer.MAX_VALUE}) {
            some.found("set(3, " + i + ", 2) of an empty one", x -> x.set(3, i, 2), PLACE);
        }
        check.of("Promise 5", "BAD; NULL");
        for (int row : Check.beside(0, 7)) {
            some.refused("drop(" + row + ")", x -> x.drop(row), BAD);
        }
        some.found("drop(4)", x -> x.drop(4), NULL);
        fresh.found("drop(0)", x -> x.drop(0), NULL);
    }

    private static void copies() {
        check.of("Promise 4", "BAD: ROWS; NULL; STORE; PLACE (i, j, n below 0, or beyond an end)");
        for (int row : Check.beside(0, 7)) {
            some.refused("copy(" + row + ", 0, 1, 0, 1)", x -> x.copy(row, 0, 1, 0, 1), BAD);
            some.refused("copy(1, 0, " + row + ", 0, 1)", x -> x.copy(1, 0, row, 0, 1), BAD);
        }
        some.found("copy(1, 0, 7, 0, 1)", x -> x.copy(1, 0, 7, 0, 1), NULL);
        some.found("copy(7, 0, 1, 0, 1)", x -> x.copy(7, 0, 1, 0, 1), NULL);
        some.found("copy(7, 0, 7, 0, 0)", x -> x.copy(7, 0, 7, 0, 0), NULL);
        some.found("copy(0, 0, 1, 1, 2)", x -> x.copy(0, 0, 1, 1, 2), STORE);
        some.found("copy(2, 0, 1, 1, 2)", x -> x.copy(2, 0, 1, 1, 2), STORE);
        for (int i : Check.beside(0, 3)) {
            some.found("copy(1, " + i + ", 1, 0, 1)", x -> x.copy(1, i, 1, 0, 1), PLACE);
            some.found("copy(1, 0, 1, " + i + ", 1)", x -> x.copy(1, 0, 1, i, 1), PLACE);
        }
        for (int n : Check.beside(0, 3)) {
            some.found("copy(1, 1, 1, 0, " + n + ")", x -> x.copy(1, 1, 1, 0, n), PLACE);
            some.found("copy(1, 0, 1, 1, " + n + ")", x -> x.copy(1, 0, 1, 1, n), PLACE);
        }
    }

    private static void texts() {
        check.of("Promise 6", "A byte (0 to 255) .. BAD; FULL");
        for (int letter : Check.beside(0, 255)) {
            some.refused("feed(" + letter + ")", x -> x.feed(letter), BAD);
            fullTape.refused("feed(" + letter + ")", x -> x.feed(letter), BAD);
        }
        fullTape.refused("feed(0)", x -> x.feed(0), FULL);
        fullTape.refused("feed(255)", x -> x.feed(255), FULL);
    }

    private static void faults() {
        check.of("Promise 7", "-1000100 less the place of a FAULT: all stays");
        fault("r1;h5;h6;h7", 1, 11);
        fault("r1;h5;h6;h7;h5", 2, 13);
        fault("r1;h0;h0;h0;h0;h0;h0;h0;h", 3, 24);
    }

    /** The twins have read that text ahead of the SAINTS, so that fault() and the empty tape stay, too. */
    private static void fault(String text, int number, int place) {
        Twins read = new Twins(check, "a FAULT " + number, x -> behindFault(x, text));
        check.due("fault() of " + text, read.one().fault(), number);
        read.refused("saints() of " + text, x -> Check.read(x, text), -1000100 - place);
        Twins nobodyYet = new Twins(check, "a FAULT " + number + ", no SAINTS", x -> {
            Check.read(x, text);
            threeRows(x);
        });
        nobodyYet.refused("saints() of " + text, x -> Check.read(x, text), -1000100 - place);
    }

    private static void steps() {
        check.of("Promise 9", "n STEPS (1 to 24) .. BAD; STATE: no SAINTS (ahead of BAD); FULL: beyond STEP 9999");
        for (int n : Check.beside(1, 24)) {
            some.refused("steps(" + n + ")", x -> x.steps(n), BAD);
            manyActs.refused("steps(" + n + ")", x -> x.steps(n), BAD);
            nobody.refused("steps(" + n + ")", x -> x.steps(n), STATE);
        }
        nobody.refused("steps(1)", x -> x.steps(1), STATE);
        late.refused("steps(16)", x -> x.steps(16), FULL);
        late.refused("steps(24)", x -> x.steps(24), FULL);
        atEnd.refused("steps(1)", x -> x.steps(1), FULL);
        atEnd.refused("steps(24)", x -> x.steps(24), FULL);
    }

    private static void byHand() {
        check.of("Promise 10", "BAD (alike, too)");
        for (int saint : Check.beside(0, 4)) {
            some.refused("swap(" + saint + ", 1)", x -> x.swap(saint, 1), BAD);
            some.refused("swap(1, " + saint + ")", x -> x.swap(1, saint), BAD);
        }
        for (int saint = 0; saint < 5; saint++) {
            int alike = saint;
            manyActs.refused("swap(" + alike + ", " + alike + ")", x -> x.swap(alike, alike), BAD);
        }
        nobody.refused("swap(0, 1)", x -> x.swap(0, 1), BAD);
        check.of("Promise 11", "NIGHT is v (1 to 9) .. BAD; STATE: no SAINTS (ahead of BAD)");
        for (int v : Check.beside(1, 9)) {
            some.refused("night(" + v + ")", x -> x.night(v), BAD);
            nobody.refused("night(" + v + ")", x -> x.night(v), STATE);
        }
        nobody.refused("night(1)", x -> x.night(1), STATE);
        check.of("Promise 12", "STATE: none");
        fresh.refused("undo()", x -> x.undo(), STATE);
        nobody.refused("undo()", x -> x.undo(), STATE);
        new Twins(check, "all undone", x -> {
            manyActs(x);
            for (int i = 0; i < 24; i++) {
                x.undo();
            }
        }).refused("undo()", x -> x.undo(), STATE);
    }

    private static void toldOfSaints() {
        check.of("Promise 13", "BAD");
        for (int saint : Check.beside(0, 4)) {
            some.refused("saint(" + saint + ", 0)", x -> x.saint(saint, 0), BAD);
            some.refused("saint(" + saint + ", 1)", x -> x.saint(saint, 1), BAD);
        }
        for (int what : Check.beside(0, 1)) {
            some.refused("saint(0, " + what + ")", x -> x.saint(0, what), BAD);
        }
        nobody.refused("saint(0, 0)", x -> x.saint(0, 0), BAD);
        check.of("Promise 14", "Who has a THING (1 to 9; NONE). BAD");
        for (int thing : Check.beside(1, 9)) {
            some.refused("holder(" + thing + ")", x -> x.holder(thing), BAD);
            nobody.refused("holder(" + thing + ")", x -> x.holder(thing), BAD);
        }
    }

    private static void foretold() {
        check.of("Promise 15", "The THING (0: none), d STEPS on. BAD");
        for (int saint : Check.beside(0, 4)) {
            some.refused("ahead(" + saint + ", 1)", x -> x.ahead(saint, 1), BAD);
        }
        for (int d : Check.beside(0, 60)) {
            some.refused("ahead(0, " + d + ")", x -> x.ahead(0, d), BAD);
        }
        nobody.refused("ahead(0, 0)", x -> x.ahead(0, 0), BAD);
        check.of("Promise 16", "WHEN (THING 1 to 9); NONE. BAD");
        for (int saint : Check.beside(0, 4)) {
            some.refused("when(" + saint + ", 1)", x -> x.when(saint, 1), BAD);
        }
        for (int thing : Check.beside(1, 9)) {
            some.refused("when(0, " + thing + ")", x -> x.when(0, thing), BAD);
        }
        nobody.refused("when(0, 1)", x -> x.when(0, 1), BAD);
        check.of("Promise 17", "PRAY (THING 1 to 9); NONE. BAD; STATE: no SAINTS (ahead of BAD)");
        for (int thing : Check.beside(1, 9)) {
            some.refused("pray(" + thing + ")", x -> x.pray(thing), BAD);
            nobody.refused("pray(" + thing + ")", x -> x.pray(thing), STATE);
        }
        nobody.refused("pray(1)", x -> x.pray(1), STATE);
        check.of("Promise 18", "STATE: no SAINTS");
        nobody.refused("round()", x -> x.round(), STATE);
        check.of("Promise 19", "BAD; STATE: no SAINTS (ahead of BAD)");
        for (int what : Check.beside(0, 2)) {
            some.refused("home(" + what + ")", x -> x.home(what), BAD);
            nobody.refused("home(" + what + ")", x -> x.home(what), STATE);
        }
        nobody.refused("home(0)", x -> x.home(0), STATE);
    }

    /** SAINTS are five, ROWS have four ITEMS: ROW 4 is laid with six, so that two places can be told from. */
    private static void goals() {
        Twins six = new Twins(check, "a ROW of six", x -> {
            some(x);
            x.row(4, 2, 6);
            x.as(0, 5);
        });
        check.of("Promise 20", "BAD: ROW, what; STATE: no SAINTS (ahead of BAD); NULL; PLACE");
        for (int row : Check.beside(0, 7)) {
            six.refused("swaps(" + row + ", 0, 0)", x -> x.swaps(row, 0, 0), BAD);
            six.refused("sort(" + row + ", 0, 0)", x -> x.sort(row, 0, 0), BAD);
        }
        for (int what : Check.beside(0, 1)) {
            six.refused("swaps(4, 0, " + what + ")", x -> x.swaps(4, 0, what), BAD);
        }
        nobody.refused("swaps(0, 0, 0)", x -> x.swaps(0, 0, 0), STATE);
        six.found("swaps(7, 0, 0)", x -> x.swaps(7, 0, 0), NULL);
        six.found("swaps(0, 0, 0) of too short a ROW", x -> x.swaps(0, 0, 0), PLACE);
        for (int i : Check.beside(0, 1)) {
            six.found("swaps(4, " + i + ", 1)", x -> x.swaps(4, i, 1), PLACE);
            six.found("sort(4, " + i + ", 0)", x -> x.sort(4, i, 0), PLACE);
        }
        check.of("Promise 21", "BAD: ROW, k below -1; STATE: no SAINTS (ahead of BAD); NULL; PLACE");
        for (int k : new int[] {-2, Integer.MIN_VALUE}) {
            six.refused("sort(4, 0, " + k + ")", x -> x.sort(4, 0, k), BAD);
        }
        nobody.refused("sort(0, 0, -1)", x -> x.sort(0, 0, -1), STATE);
        six.found("sort(7, 0, -1)", x -> x.sort(7, 0, -1), NULL);
        six.found("sort(0, 0, -1) of too short a ROW", x -> x.sort(0, 0, -1), PLACE);
        check.of("Promise 22", "BAD: k not -1 to 1, too");
        for (int k : Check.beside(-1, 1)) {
            some.refused("plan(0, 1, " + k + ")", x -> x.plan(0, 1, k), BAD);
        }
        for (int thing : Check.beside(1, 9)) {
            some.refused("plan(0, " + thing + ", -1)", x -> x.plan(0, thing, -1), BAD);
        }
        for (int saint : Check.beside(0, 4)) {
            some.refused("plan(" + saint + ", 1, -1)", x -> x.plan(saint, 1, -1), BAD);
        }
        nobody.refused("plan(0, 1, -1)", x -> x.plan(0, 1, -1), BAD);
    }

    private static void clues() {
        check.of("Promises 23, 24", "BAD: SAINT, ROW, n, what; NULL; PLACE");
        Twins twelve = new Twins(check, "a ROW of 13", x -> {
            some(x);
            x.row(4, 2, 13);
            x.as(0, 5);
        });
        for (int saint : Check.beside(0, 4)) {
            twelve.refused("fits(" + saint + ", 4, 0, 1, 0)", x -> x.fits(saint, 4, 0, 1, 0), BAD);
            twelve.refused("began(" + saint + ", 4, 0, 1, 0)", x -> x.began(saint, 4, 0, 1, 0), BAD);
        }
        for (int row : Check.beside(0, 7)) {
            twelve.refused("fits(0, " + row + ", 0, 1, 0)", x -> x.fits(0, row, 0, 1, 0), BAD);
            twelve.refused("began(0, " + row + ", 0, 1, 0)", x -> x.began(0, row, 0, 1, 0), BAD);
        }
        for (int n : Check.beside(1, 12)) {
            twelve.refused("fits(0, 4, 0, " + n + ", 0)", x -> x.fits(0, 4, 0, n, 0), BAD);
            twelve.refused("began(0, 4, 0, " + n + ", 0)", x -> x.began(0, 4, 0, n, 0), BAD);
        }
        for (int what : Check.beside(0, 1)) {
            twelve.refused("fits(0, 4, 0, 1, " + what + ")", x -> x.fits(0, 4, 0, 1, what), BAD);
            twelve.refused("began(0, 4, 0, 1, " + what + ")", x -> x.began(0, 4, 0, 1, what), BAD);
        }
        twelve.found("fits(0, 7, 0, 1, 0)", x -> x.fits(0, 7, 0, 1, 0), NULL);
        twelve.found("began(0, 7, 0, 1, 0)", x -> x.began(0, 7, 0, 1, 0), NULL);
        for (int i : Check.beside(0, 1)) {
            twelve.found("fits(0, 4, " + i + ", 12, 1)", x -> x.fits(0, 4, i, 12, 1), PLACE);
            twelve.found("began(0, 4, " + i + ", 12, 1)", x -> x.began(0, 4, i, 12, 1), PLACE);
        }
        for (int i : Check.beside(0, 12)) {
            twelve.found("fits(0, 4, " + i + ", 1, 0)", x -> x.fits(0, 4, i, 1, 0), PLACE);
            twelve.found("began(0, 4, " + i + ", 1, 0)", x -> x.began(0, 4, i, 1, 0), PLACE);
        }
        twelve.found("fits(0, 3, 0, 1, 0) of an empty ROW", x -> x.fits(0, 3, 0, 1, 0), PLACE);
        nobody.refused("fits(0, 0, 0, 1, 0)", x -> x.fits(0, 0, 0, 1, 0), BAD);
        nobody.refused("began(0, 0, 0, 1, 0)", x -> x.began(0, 0, 0, 1, 0), BAD);
    }

    private static void chances() {
        check.of("Promise 25", "SLEEP (THING 0 to 9; c 0 to 10) .. BAD");
        for (int saint : Check.beside(0, 4)) {
            some.refused("sleep(" + saint + ", 1, 1, 0)", x -> x.sleep(saint, 1, 1, 0), BAD);
        }
        for (int thing : Check.beside(0, 9)) {
            some.refused("sleep(0, " + thing + ", 1, 0)", x -> x.sleep(0, thing, 1, 0), BAD);
        }
        for (int c : Check.beside(0, 10)) {
            some.refused("sleep(0, 1, " + c + ", 0)", x -> x.sleep(0, 1, c, 0), BAD);
        }
        for (int what : Check.beside(0, 1)) {
            some.refused("sleep(0, 1, 1, " + what + ")", x -> x.sleep(0, 1, 1, what), BAD);
        }
        nobody.refused("sleep(0, 0, 0, 0)", x -> x.sleep(0, 0, 0, 0), BAD);
        check.of("Promise 26", "YEARS by a SEED (1 to 999999) .. BAD; STATE: no SAINTS (ahead of BAD)");
        for (int n : Check.beside(0, 60)) {
            some.refused("drawn(" + n + ", 1, 0)", x -> x.drawn(n, 1, 0), BAD);
            nobody.refused("drawn(" + n + ", 1, 0)", x -> x.drawn(n, 1, 0), STATE);
        }
        for (int seed : Check.beside(1, 999999)) {
            some.refused("drawn(1, " + seed + ", 0)", x -> x.drawn(1, seed, 0), BAD);
            nobody.refused("drawn(1, " + seed + ", 0)", x -> x.drawn(1, seed, 0), STATE);
        }
        for (int what : Check.beside(0, 1)) {
            some.refused("drawn(1, 1, " + what + ")", x -> x.drawn(1, 1, what), BAD);
            nobody.refused("drawn(1, 1, " + what + ")", x -> x.drawn(1, 1, what), STATE);
        }
        nobody.refused("drawn(0, 1, 0)", x -> x.drawn(0, 1, 0), STATE);
    }

    private static void images() {
        check.of("Promise 27", "An IMAGE (0, 1) .. BAD; STATE: no SAINTS");
        for (int k : Check.beside(0, 1)) {
            some.refused("image(" + k + ")", x -> x.image(k), BAD);
            nobody.refused("image(" + k + ")", x -> x.image(k), BAD);
        }
        nobody.refused("image(0)", x -> x.image(0), STATE);
        nobody.refused("image(1)", x -> x.image(1), STATE);
        check.of("Promise 28", "BAD; STATE: none was kept");
        for (int k : Check.beside(0, 1)) {
            some.refused("restore(" + k + ")", x -> x.restore(k), BAD);
            nobody.refused("restore(" + k + ")", x -> x.restore(k), BAD);
        }
        some.refused("restore(1), as 0 alone was kept", x -> x.restore(1), STATE);
        nobody.refused("restore(0)", x -> x.restore(0), STATE);
        nobody.refused("restore(1)", x -> x.restore(1), STATE);
    }

    private static void asked() {
        check.of("Promise 29", "BAD");
        for (int saint : Check.beside(0, 4)) {
            some.refused("kind(" + saint + ")", x -> x.kind(saint), BAD);
        }
        nobody.refused("kind(0)", x -> x.kind(0), BAD);
        check.of("Promise 30", "a KIND (0 .. 5) .. BAD; KIND: it is no such one");
        for (int saint : Check.beside(0, 4)) {
            some.refused("as(" + saint + ", 0)", x -> x.as(saint, 0), BAD);
        }
        for (int kind : Check.beside(0, 5)) {
            some.refused("as(0, " + kind + ")", x -> x.as(0, kind), BAD);
        }
        nobody.refused("as(0, 0)", x -> x.as(0, 0), BAD);
        some.found("as(4, 1)", x -> x.as(4, 1), KIND);
        check.of("Promise 31", "An ASK (0, 1) of a SAINT. BAD");
        for (int saint : Check.beside(0, 4)) {
            some.refused("ask(" + saint + ", 0)", x -> x.ask(saint, 0), BAD);
        }
        for (int what : Check.beside(0, 1)) {
            some.refused("ask(0, " + what + ")", x -> x.ask(0, what), BAD);
        }
        nobody.refused("ask(0, 0)", x -> x.ask(0, 0), BAD);
        check.of("Promise 33", "BAD");
        for (int what : Check.beside(0, 7)) {
            some.refused("count(" + what + ")", x -> x.count(what), BAD);
            nobody.refused("count(" + what + ")", x -> x.count(what), BAD);
        }
    }
}
