/** Promises 23 and 24 (fits, began). */
public final class CluesTest {
    private static final int NULL = -1000011, PLACE = -1000012;
    private static final Check check = new Check("CluesTest");

    public static void main(String[] args) {
        kinds();
        kindsByLaterSteps();
        nights();
        orders();
        ordersWithNone();
        items();
        refused();
        check.end();
    }

    /** SAINT 0 has 2 ahead of one that holds nothing: givers, shy and proud ones hand it on, the others keep it. */
    private static void kinds() {
        NicheSaints x = Check.of("r9;g2;h0;h3;");
        Check.lay(x, 0, 0, 2, 3);
        check.due("handed on", x.fits(0, 0, 0, 1, 0), 2 + 4 + 8);
        check.due("kept", x.fits(0, 0, 1, 1, 0), 16 + 32);
        check.due("neither", x.fits(0, 0, 2, 1, 0), 0);
        x.steps(1);
        x.swap(0, 1);
        check.due("handed on from STEP 1: no proud one", x.fits(0, 0, 0, 1, 0), 2 + 4);
        check.due("kept from STEP 1", x.fits(0, 0, 1, 1, 0), 8 + 16 + 32);
        check.due("kind(0) stays", x.kind(0), 1);
        check.due("count(2) stays", x.count(2), 1);
        check.due("count(4) stays", x.count(4), 203);
        check.due("count(6) stays", x.count(6), 2);
    }

    /** One in a hood is told from one that holds when it gives back at MATINS behind STEP 2. */
    private static void kindsByLaterSteps() {
        NicheSaints x = Check.of("r2;h2;h5;");
        Check.lay(x, 0, 2, 5, 5, 2, 2, 2);
        check.due("1 STEP", x.fits(0, 0, 0, 1, 0), 2 + 4 + 8 + 16 + 32);
        check.due("2 STEPS", x.fits(0, 0, 0, 2, 0), 32);
        check.due("3 STEPS", x.fits(0, 0, 0, 3, 0), 32);
        check.due("4 STEPS", x.fits(0, 0, 0, 4, 0), 0);
        check.due("all 2", x.fits(0, 0, 3, 3, 0), 2 + 4 + 8 + 16);
    }

    private static void nights() {
        NicheSaints x = Check.of("r4;o2;h5;");
        Check.lay(x, 0, 2, 2, 5, 5, 2, 2, 2, 2, 2, 2, 2, 2, 2, 2, 2, 2);
        check.due("kept for 2 STEPS", x.fits(0, 0, 0, 2, 1), 1 << 3 | 1 << 4 | 1 << 5 | 1 << 6 | 1 << 7 | 1 << 8 | 1 << 9);
        check.due("given back behind the third", x.fits(0, 0, 0, 3, 1), 1 << 3);
        check.due("given back behind the first", x.fits(0, 0, 2, 2, 1), 1 << 1);
        check.due("kept for 8 STEPS", x.fits(0, 0, 4, 8, 1), 1 << 9);
        check.due("kept for 12 STEPS", x.fits(0, 0, 4, 12, 1), 0);
        x.steps(2);
        check.due("given back behind STEP 3 or 5", x.fits(0, 0, 1, 2, 1), 1 << 2 | 1 << 4);
        check.due("count(3) stays", x.count(3), 4);
    }

    /** Of three that hold, SAINT 1 has 2 in two orders: 1 2 3 (place 0) and 3 2 1 (place 5). */
    private static void orders() {
        NicheSaints x = Check.of("r9;h3;h1;h2;");
        Check.lay(x, 0, 2, 2, 3, 4);
        check.due("how many", x.began(1, 0, 0, 2, 0), 2);
        check.due("the first", x.began(1, 0, 0, 2, 1), 0);
        check.due("how many have 3 there", x.began(1, 0, 2, 1, 0), 2);
        check.due("the first: 1 3 2", x.began(1, 0, 2, 1, 1), 1);
        check.due("the first with 3 in SAINT 0", x.began(0, 0, 2, 1, 1), 4);
        check.due("not by turns", x.began(1, 0, 1, 2, 0), 0);
        check.due("not by turns: the first", x.began(1, 0, 1, 2, 1), NicheSaints.NONE);
        check.due("a thing that is not there", x.began(1, 0, 3, 1, 0), 0);
        check.due("a thing that is not there: the first", x.began(1, 0, 3, 1, 1), NicheSaints.NONE);
        check.due("count(4) stays", x.count(4), 312);
        NicheSaints y = Check.of("r9;g1;g2;g3;");
        Check.lay(y, 0, 2, 3, 2);
        check.due("three givers: 1 3 2, and 3 2 1 no more", y.began(1, 0, 0, 3, 0), 1);
        check.due("the first: 1 3 2", y.began(1, 0, 0, 3, 1), 1);
    }

    /** As many times none as now: 0 0 1, 0 1 0, 1 0 0. */
    private static void ordersWithNone() {
        NicheSaints x = Check.of("r9;h0;h1;h0;");
        Check.lay(x, 0, 0, 1);
        check.due("none", x.began(0, 0, 0, 1, 0), 2);
        check.due("the first with none", x.began(0, 0, 0, 1, 1), 0);
        check.due("with 1", x.began(0, 0, 1, 1, 0), 1);
        check.due("the first with 1", x.began(0, 0, 1, 1, 1), 2);
        NicheSaints y = Check.of("r9;h1;h2;h3;h4;h5;h6;h7;");
        Check.lay(y, 1, 7, 7, 7, 7, 7, 7, 7, 7, 7, 7, 7, 7);
        NicheSaints z = Check.of("r9;h9;h8;");
        Check.lay(z, 0, 9);
        check.due("the greatest THING", z.began(0, 0, 0, 1, 1), 1);
        check.due("seven, 12 STEPS", y.began(0, 1, 0, 12, 0), 720);
        check.due("the first", y.began(0, 1, 0, 12, 1), 4320);
    }

    private static void items() {
        NicheSaints x = Check.of("r9;h1;h2;");
        x.row(0, 0, 2);
        x.set(0, 0, 257);
        check.due("a byte of 257 is 1", x.fits(0, 0, 0, 1, 0), 2 + 4 + 8 + 16 + 32);
        x.row(1, 1, 2);
        x.set(1, 0, 257);
        check.due("a short of 257 is not", x.fits(0, 1, 0, 1, 0), 0);
        check.due("began", x.began(0, 1, 0, 1, 0), 0);
        x.set(1, 1, -1);
        check.due("began of -1", x.began(0, 1, 1, 1, 1), NicheSaints.NONE);
    }

    private static void both(NicheSaints x, int saint, int row, int i, int n, int what, int due) {
        String rest = "(" + saint + ", " + row + ", " + i + ", " + n + ", " + what + ")";
        check.due("fits" + rest, x.fits(saint, row, i, n, what), due);
        check.due("began" + rest, x.began(saint, row, i, n, what), due);
    }

    private static void refused() {
        NicheSaints x = new NicheSaints();
        x.row(0, 0, 20);
        both(x, 0, 0, 0, 1, 0, NicheSaints.BAD);
        Check.read(x, "r9;h1;h2;");
        both(x, 2, 0, 0, 1, 0, NicheSaints.BAD);
        both(x, -1, 0, 0, 1, 0, NicheSaints.BAD);
        both(x, 0, 8, 0, 1, 0, NicheSaints.BAD);
        both(x, 0, -1, 0, 1, 0, NicheSaints.BAD);
        both(x, 0, 0, 0, 0, 0, NicheSaints.BAD);
        both(x, 0, 0, 0, -1, 0, NicheSaints.BAD);
        both(x, 0, 0, 0, 13, 0, NicheSaints.BAD);
        both(x, 0, 0, 0, 1, 2, NicheSaints.BAD);
        both(x, 0, 0, 0, 1, -1, NicheSaints.BAD);
        both(x, 0, 1, 0, 13, 0, NicheSaints.BAD);
        check.due("status()", x.status(), 0);
        both(x, 0, 1, -1, 1, 0, NULL);
        check.due("status()", x.status(), 1);
        both(x, 0, 0, 9, 12, 0, PLACE);
        check.due("status()", x.status(), 2);
        both(x, 0, 0, -1, 1, 1, PLACE);
        both(x, 0, 0, 20, 1, 1, PLACE);
        both(x, 0, 0, Integer.MAX_VALUE, 1, 1, PLACE);
        both(x, 0, 0, Integer.MIN_VALUE, 12, 1, PLACE);
        both(x, 0, 0, 8, 12, 0, 0);
        check.due("status()", x.status(), 0);
        x.drop(1);
        check.due("fits(0, 0, 0, 1, 1)", x.fits(0, 0, 0, 1, 1), 0);
        check.due("status()", x.status(), 0);
        x.drop(1);
        check.due("began(0, 0, 0, 1, 1)", x.began(0, 0, 0, 1, 1), NicheSaints.NONE);
        check.due("status()", x.status(), 0);
    }
}
