/** Promises 25 and 26 (sleep, drawn). */
public final class ChanceTest {
    private static final Check check = new Check("ChanceTest");

    public static void main(String[] args) {
        asleep();
        asleepAtMatins();
        sleepWrongly();
        drawn();
        hooded();
        drawnWrongly();
        check.end();
    }

    private static void sleep(NicheSaints x, int saint, int thing, int c, int above, int below) {
        String rest = "(" + saint + ", " + thing + ", " + c + ", ";
        check.due("sleep" + rest + "0)", x.sleep(saint, thing, c, 0), above);
        check.due("sleep" + rest + "1)", x.sleep(saint, thing, c, 1), below);
    }

    private static void asleep() {
        NicheSaints x = Check.of("r9;g1;h0;");
        sleep(x, 0, 1, 3, 3, 10);
        sleep(x, 0, 0, 3, 7, 10);
        sleep(x, 1, 1, 3, 7, 10);
        sleep(x, 0, 1, 5, 1, 2);
        sleep(x, 0, 1, 0, 0, 1);
        sleep(x, 0, 1, 10, 1, 1);
        sleep(x, 0, 9, 5, 0, 1);
        // 1 stays with SAINT 0 if both are awake (it goes and comes back) or both sleep.
        NicheSaints y = Check.of("r9;g1;g2;");
        sleep(y, 0, 1, 4, 36 + 16, 100, 13, 25);
        sleep(y, 0, 2, 4, 48, 100, 12, 25);
        sleep(y, 0, 1, 1, 82, 100, 41, 50);
        // 1 is handed on twice, and then kept (81), or it stays, and SAINT 2 changes none for it (90).
        sleep(Check.of("r9;g1;g0;g0;"), 2, 1, 1, 171, 1000);
        NicheSaints z = Check.of("r9;h1;h2;h3;h4;h5;h6;h7;");
        sleep(z, 6, 7, 1, 1, 1);
        NicheSaints w = Check.of("r9;g1;h0;h0;h0;h0;h0;h0;");
        sleep(w, 1, 1, 9, 1, 10);
        // Each of six hands 1 on to the next: 9 to the power 6 of a million.
        NicheSaints v = Check.of("r9;g1;g0;g0;g0;g0;g0;h0;");
        sleep(v, 6, 1, 1, 531441, 1000000);
        check.due("count(4) stays", v.count(4), 1000000);
        check.due("count(2) stays", v.count(2), 0);
    }

    private static void sleep(NicheSaints x, int saint, int thing, int c, int cut, int by, int above, int below) {
        if (cut * below != above * by) {
            throw new IllegalStateException("the test itself is wrong");
        }
        sleep(x, saint, thing, c, above, below);
    }

    /** MATINS are held though all sleep. */
    private static void asleepAtMatins() {
        NicheSaints x = Check.of("r1;o2;h5;");
        sleep(x, 0, 5, 10, 1, 1);
        sleep(x, 1, 2, 3, 1, 1);
        NicheSaints y = Check.of("r2;o2;h5;");
        sleep(y, 0, 2, 10, 1, 1);
        y.steps(1);
        sleep(y, 0, 5, 10, 1, 1);
        NicheSaints z = Check.of("r9;p1;h0;");
        sleep(z, 1, 1, 2, 4, 5);
        z.steps(1);
        z.swap(0, 1);
        sleep(z, 1, 1, 2, 0, 1);
    }

    private static void sleepWrongly() {
        NicheSaints x = Check.of("r9;g1;h0;");
        check.due("sleep(2, 0, 0, 0)", x.sleep(2, 0, 0, 0), NicheSaints.BAD);
        check.due("sleep(-1, 0, 0, 0)", x.sleep(-1, 0, 0, 0), NicheSaints.BAD);
        check.due("sleep(0, -1, 0, 0)", x.sleep(0, -1, 0, 0), NicheSaints.BAD);
        check.due("sleep(0, 10, 0, 0)", x.sleep(0, 10, 0, 0), NicheSaints.BAD);
        check.due("sleep(0, 0, -1, 0)", x.sleep(0, 0, -1, 0), NicheSaints.BAD);
        check.due("sleep(0, 0, 11, 0)", x.sleep(0, 0, 11, 0), NicheSaints.BAD);
        check.due("sleep(0, 1, 11, 1)", x.sleep(0, 1, 11, 1), NicheSaints.BAD);
        check.due("sleep(0, 0, 0, -1)", x.sleep(0, 0, 0, -1), NicheSaints.BAD);
        check.due("sleep(0, 0, 0, 2)", x.sleep(0, 0, 0, 2), NicheSaints.BAD);
    }

    /** By SEED 1 the rests are 16807, 282475249, 1622650073: of three SAINTS 1, 1, 2. */
    private static void drawn() {
        NicheSaints x = Check.of("r9;h1;h2;h3;");
        check.due("drawn(0, 1, 0)", x.drawn(0, 1, 0), 123);
        check.due("drawn(1, 1, 0)", x.drawn(1, 1, 0), 132);
        check.due("drawn(2, 1, 0)", x.drawn(2, 1, 0), 123);
        check.due("drawn(3, 1, 0)", x.drawn(3, 1, 0), 321);
        check.due("drawn(60, 999999, 1)", x.drawn(60, 999999, 1), 0);
        check.due("count(2) stays", x.count(2), 0);
        check.due("count(4) stays", x.count(4), 123);
        check.due("count(6) stays", x.count(6), 0);
        // The change by hand is ahead of the STEP: 1 3 2, then as three givers do.
        NicheSaints y = Check.of("r9;g1;g2;g3;");
        check.due("drawn(1, 1, 0) of givers", y.drawn(1, 1, 0), 123);
        NicheSaints z = Check.of("r9;h0;h0;");
        check.due("drawn(5, 7, 0), nothing", z.drawn(5, 7, 0), 0);
    }

    private static void hooded() {
        NicheSaints x = Check.of("r9;h1;o2;h3;");
        check.due("always", x.drawn(5, 1, 1), 5);
        check.due("none", x.drawn(0, 1, 1), 0);
        // Behind STEP 1: 1 0 2, and at MATINS nothing; behind STEP 2: 1 2 0 gives back 2 to itself; then 0 2 1.
        NicheSaints y = Check.of("r1;h1;o2;h0;");
        check.due("drawn(1, 1, 0)", y.drawn(1, 1, 0), 102);
        check.due("drawn(1, 1, 1)", y.drawn(1, 1, 1), 0);
        check.due("drawn(2, 1, 1)", y.drawn(2, 1, 1), 1);
        check.due("drawn(3, 1, 0)", y.drawn(3, 1, 0), 21);
        check.due("drawn(3, 1, 1)", y.drawn(3, 1, 1), 2);
        check.due("SAINT 0 in a hood", Check.of("r9;o1;h2;").drawn(4, 5, 1), 4);
        // Two hoods with things count once a STEP.
        check.due("two hoods", Check.of("r9;o1;o2;").drawn(7, 5, 1), 7);
    }

    private static void drawnWrongly() {
        NicheSaints x = new NicheSaints();
        check.due("drawn(-1, 0, 2)", x.drawn(-1, 0, 2), NicheSaints.STATE);
        Check.read(x, "r9;h1;h2;");
        check.due("drawn(-1, 1, 0)", x.drawn(-1, 1, 0), NicheSaints.BAD);
        check.due("drawn(61, 1, 0)", x.drawn(61, 1, 0), NicheSaints.BAD);
        check.due("drawn(1, 0, 0)", x.drawn(1, 0, 0), NicheSaints.BAD);
        check.due("drawn(1, 1000000, 0)", x.drawn(1, 1000000, 0), NicheSaints.BAD);
        check.due("drawn(1, 1, -1)", x.drawn(1, 1, -1), NicheSaints.BAD);
        check.due("drawn(1, 1, 2)", x.drawn(1, 1, 2), NicheSaints.BAD);
    }
}
