/**
 * "Refusals are answers, the first of these that fits, but as told: BAD, STATE, FULL, then FINDINGS, of several
 * the first in time": calls that two or more refusals fit, and what status() tells behind them.
 */
public final class FirstRefusalTest {
    private static final int BAD = NicheSaints.BAD, STATE = NicheSaints.STATE;
    private static final int NULL = -1000011, PLACE = -1000012, STORE = -1000015;
    private static final Check check = new Check("FirstRefusalTest");

    public static void main(String[] args) {
        badAheadOfState();
        stateAheadOfBad();
        badThoughThereAreNone();
        badAheadOfFull();
        badAheadOfFindings();
        stateAheadOfFindings();
        nullAheadOfOthers();
        storeAheadOfPlace();
        findingsAheadOfAnswers();
        check.end();
    }

    /** ROW 0 of four bytes, ROW 1 of four shorts, ROW 2 of two bytes; 7 is missing; FINDING 4 is the latest. */
    private static NicheSaints withRows(NicheSaints x) {
        x.row(0, 0, 4);
        x.row(1, 1, 4);
        x.row(2, 0, 2);
        x.row(3, 0, -1);
        return x;
    }

    private static NicheSaints three() {
        return withRows(Check.of("r9;h1;h2;h3;"));
    }

    private static void badAheadOfState() {
        check.of("Promises 27, 28", "BAD; STATE");
        NicheSaints x = new NicheSaints();
        for (int k : Check.beside(0, 1)) {
            check.due("image(" + k + ")", x.image(k), BAD);
            check.due("restore(" + k + ")", x.restore(k), BAD);
        }
    }

    private static void stateAheadOfBad() {
        check.of("Promises 9, 11, 17, 19, 20, 21, 26", "STATE: no SAINTS (ahead of BAD)");
        NicheSaints x = withRows(new NicheSaints());
        for (int far : new int[] {Integer.MIN_VALUE, -2, 1000000, Integer.MAX_VALUE}) {
            check.due("steps(" + far + ")", x.steps(far), STATE);
            check.due("night(" + far + ")", x.night(far), STATE);
            check.due("pray(" + far + ")", x.pray(far), STATE);
            check.due("home(" + far + ")", x.home(far), STATE);
            check.due("swaps(" + far + ", 0, 0)", x.swaps(far, 0, 0), STATE);
            check.due("swaps(0, 0, " + far + ")", x.swaps(0, 0, far), STATE);
            check.due("sort(" + far + ", 0, 0)", x.sort(far, 0, 0), STATE);
            check.due("sort(0, 0, " + far + ")", x.sort(0, 0, far), STATE);
            check.due("drawn(" + far + ", 1, 0)", x.drawn(far, 1, 0), STATE);
            check.due("drawn(1, " + far + ", 0)", x.drawn(1, far, 0), STATE);
            check.due("drawn(1, 1, " + far + ")", x.drawn(1, 1, far), STATE);
        }
        check.due("status()", x.status(), 4);
    }

    private static void badThoughThereAreNone() {
        check.of("Promises 10, 13 to 16, 22 to 25, 29 to 31", "BAD (there is no such thing; no STATE is told)");
        NicheSaints x = withRows(new NicheSaints());
        check.due("swap(0, 1)", x.swap(0, 1), BAD);
        check.due("saint(0, 0)", x.saint(0, 0), BAD);
        check.due("ahead(0, 0)", x.ahead(0, 0), BAD);
        check.due("when(0, 1)", x.when(0, 1), BAD);
        check.due("plan(0, 1, -1)", x.plan(0, 1, -1), BAD);
        check.due("fits(0, 0, 0, 1, 0)", x.fits(0, 0, 0, 1, 0), BAD);
        check.due("fits(0, 7, 0, 1, 0)", x.fits(0, 7, 0, 1, 0), BAD);
        check.due("began(0, 0, 0, 1, 0)", x.began(0, 0, 0, 1, 0), BAD);
        check.due("began(0, 7, 0, 1, 0)", x.began(0, 7, 0, 1, 0), BAD);
        check.due("sleep(0, 0, 0, 0)", x.sleep(0, 0, 0, 0), BAD);
        check.due("kind(0)", x.kind(0), BAD);
        check.due("as(0, 0)", x.as(0, 0), BAD);
        check.due("ask(0, 0)", x.ask(0, 0), BAD);
        check.due("holder(1): no THING is missing", x.holder(1), NicheSaints.NONE);
        check.due("status()", x.status(), 4);
    }

    private static void badAheadOfFull() {
        check.of("Promise 6", "BAD; FULL");
        NicheSaints x = new NicheSaints();
        Check.feed(x, "r".repeat(50));
        for (int letter : Check.beside(0, 255)) {
            check.due("feed(" + letter + ")", x.feed(letter), BAD);
        }
        check.due("feed(255)", x.feed(255), NicheSaints.FULL);
        check.of("Promise 9", "BAD; FULL: beyond STEP 9999");
        NicheSaints late = Check.of("r9;h1;h2;");
        for (int i = 0; i < 416; i++) {
            late.steps(24);
        }
        for (int n : Check.beside(1, 24)) {
            check.due("steps(" + n + ") at STEP 9984", late.steps(n), BAD);
        }
        check.due("steps(24) at STEP 9984", late.steps(24), NicheSaints.FULL);
    }

    private static void badAheadOfFindings() {
        NicheSaints x = three();
        check.of("Promise 2", "BAD: ROW, LANE, n above 40; SIZE");
        check.due("row(8, 0, -1)", x.row(8, 0, -1), BAD);
        check.due("row(-1, 0, -1)", x.row(-1, 0, -1), BAD);
        check.due("row(0, 3, -1)", x.row(0, 3, -1), BAD);
        check.due("row(0, -1, -1)", x.row(0, -1, -1), BAD);
        check.of("Promise 4", "BAD: ROWS; NULL; STORE; PLACE");
        check.due("copy(7, 0, 8, 0, 1)", x.copy(7, 0, 8, 0, 1), BAD);
        check.due("copy(8, 0, 7, 0, 1)", x.copy(8, 0, 7, 0, 1), BAD);
        check.due("copy(0, -1, 8, -1, -1)", x.copy(0, -1, 8, -1, -1), BAD);
        check.of("Promise 20", "BAD: ROW, what; NULL; PLACE");
        check.due("swaps(7, 0, 2)", x.swaps(7, 0, 2), BAD);
        check.due("swaps(0, -1, -1)", x.swaps(0, -1, -1), BAD);
        check.due("swaps(8, -1, 0)", x.swaps(8, -1, 0), BAD);
        check.of("Promise 21", "BAD: ROW, k below -1; NULL; PLACE");
        check.due("sort(7, 0, -2)", x.sort(7, 0, -2), BAD);
        check.due("sort(0, -1, -2)", x.sort(0, -1, -2), BAD);
        check.due("sort(8, -1, 0)", x.sort(8, -1, 0), BAD);
        check.of("Promises 23, 24", "BAD: SAINT, ROW, n, what; NULL; PLACE");
        for (int row : new int[] {7, 0}) {
            check.due("fits(3, " + row + ", 4, 1, 0)", x.fits(3, row, 4, 1, 0), BAD);
            check.due("fits(0, " + row + ", 4, 0, 0)", x.fits(0, row, 4, 0, 0), BAD);
            check.due("fits(0, " + row + ", 4, 13, 0)", x.fits(0, row, 4, 13, 0), BAD);
            check.due("fits(0, " + row + ", 4, 1, 2)", x.fits(0, row, 4, 1, 2), BAD);
            check.due("began(3, " + row + ", 4, 1, 0)", x.began(3, row, 4, 1, 0), BAD);
            check.due("began(0, " + row + ", 4, 0, 0)", x.began(0, row, 4, 0, 0), BAD);
            check.due("began(0, " + row + ", 4, 13, 0)", x.began(0, row, 4, 13, 0), BAD);
            check.due("began(0, " + row + ", 4, 1, 2)", x.began(0, row, 4, 1, 2), BAD);
        }
        check.of("Promise 30", "BAD; KIND");
        check.due("as(0, 6)", x.as(0, 6), BAD);
        check.due("as(3, 1)", x.as(3, 1), BAD);
        check.due("status(): BAD leaves it", x.status(), 4);
    }

    private static void stateAheadOfFindings() {
        check.of("Promises 20, 21", "STATE: no SAINTS; NULL; PLACE");
        NicheSaints x = withRows(new NicheSaints());
        check.due("swaps(7, 0, 0)", x.swaps(7, 0, 0), STATE);
        check.due("swaps(0, 5, 0)", x.swaps(0, 5, 0), STATE);
        check.due("sort(7, 0, 0)", x.sort(7, 0, 0), STATE);
        check.due("sort(0, -1, 0)", x.sort(0, -1, 0), STATE);
        check.due("status(): STATE leaves it", x.status(), 4);
    }

    private static void nullAheadOfOthers() {
        NicheSaints x = three();
        check.of("Promise 3", "NULL; PLACE");
        check.due("set(7, -1, 0)", x.set(7, -1, 0), NULL);
        check.due("set(7, 40, 0)", x.set(7, 40, 0), NULL);
        check.of("Promise 4", "NULL; STORE; PLACE");
        check.due("copy(0, -1, 7, 0, 1)", x.copy(0, -1, 7, 0, 1), NULL);
        check.due("copy(7, 0, 0, -1, 1)", x.copy(7, 0, 0, -1, 1), NULL);
        check.due("copy(7, 0, 1, 0, -1)", x.copy(7, 0, 1, 0, -1), NULL);
        check.due("copy(7, 0, 7, 0, 0)", x.copy(7, 0, 7, 0, 0), NULL);
        x.drop(0);
        check.due("copy(0, 0, 1, 0, 1): dropped, of another LANE", x.copy(0, 0, 1, 0, 1), NULL);
        check.due("copy(1, 0, 0, 0, 1)", x.copy(1, 0, 0, 0, 1), NULL);
        check.of("Promises 20, 21, 23, 24", "NULL; PLACE");
        check.due("swaps(7, -1, 0)", x.swaps(7, -1, 0), NULL);
        check.due("sort(7, 40, 0)", x.sort(7, 40, 0), NULL);
        check.due("fits(0, 7, -1, 1, 0)", x.fits(0, 7, -1, 1, 0), NULL);
        check.due("began(0, 7, 40, 1, 0)", x.began(0, 7, 40, 1, 0), NULL);
        check.due("status()", x.status(), 1);
    }

    private static void storeAheadOfPlace() {
        check.of("Promise 4", "STORE; PLACE");
        NicheSaints x = three();
        check.due("copy(0, -1, 1, 0, 1)", x.copy(0, -1, 1, 0, 1), STORE);
        check.due("copy(0, 0, 1, -1, 1)", x.copy(0, 0, 1, -1, 1), STORE);
        check.due("copy(0, 0, 1, 0, -1)", x.copy(0, 0, 1, 0, -1), STORE);
        check.due("copy(0, 0, 1, 0, 5)", x.copy(0, 0, 1, 0, 5), STORE);
        check.due("copy(1, 4, 0, 4, 1)", x.copy(1, 4, 0, 4, 1), STORE);
        check.due("status()", x.status(), 5);
    }

    /** ITEMS that do not fit, or are other THINGS, do not hide that some have no place. */
    private static void findingsAheadOfAnswers() {
        NicheSaints x = three();
        check.of("Promises 20, 21", "PLACE, and NONE: other THINGS");
        check.due("swaps(0, 2, 0)", x.swaps(0, 2, 0), PLACE);
        check.due("swaps(2, 0, 1)", x.swaps(2, 0, 1), PLACE);
        check.due("sort(0, 2, -1)", x.sort(0, 2, -1), PLACE);
        check.due("sort(2, 0, 5)", x.sort(2, 0, 5), PLACE);
        check.of("Promises 23, 24", "PLACE, and nothing that fits");
        check.due("fits(0, 0, 3, 2, 0)", x.fits(0, 0, 3, 2, 0), PLACE);
        check.due("fits(0, 0, 0, 5, 1)", x.fits(0, 0, 0, 5, 1), PLACE);
        check.due("began(0, 0, 3, 2, 0)", x.began(0, 0, 3, 2, 0), PLACE);
        check.due("began(0, 0, 0, 5, 1)", x.began(0, 0, 0, 5, 1), PLACE);
        check.due("status()", x.status(), 2);
    }
}
