/** Promises 15 to 19 (ahead, when, pray, round, home): what is foretold changes nothing. */
public final class ForetoldTest {
    private static final Check check = new Check("ForetoldTest");

    public static void main(String[] args) {
        nobody();
        ahead();
        when();
        pray();
        round();
        home();
        order();
        check.end();
    }

    private static void nobody() {
        NicheSaints x = new NicheSaints();
        check.due("ahead(0, 0)", x.ahead(0, 0), NicheSaints.BAD);
        check.due("when(0, 1)", x.when(0, 1), NicheSaints.BAD);
        check.due("pray(0)", x.pray(0), NicheSaints.STATE);
        check.due("round()", x.round(), NicheSaints.STATE);
        check.due("home(3)", x.home(3), NicheSaints.STATE);
    }

    private static void ahead() {
        NicheSaints x = Check.of("r3;o0;g2;");
        int[] hooded = {0, 2, 2, 0, 2, 2, 0};
        for (int d = 0; d < hooded.length; d++) {
            check.due("ahead(0, " + d + ")", x.ahead(0, d), hooded[d]);
            check.due("ahead(1, " + d + ")", x.ahead(1, d), 2 - hooded[d]);
        }
        check.due("ahead(0, 59)", x.ahead(0, 59), 2);
        check.due("ahead(0, 60)", x.ahead(0, 60), 0);
        check.due("ahead(0, 61)", x.ahead(0, 61), NicheSaints.BAD);
        check.due("ahead(0, -1)", x.ahead(0, -1), NicheSaints.BAD);
        check.due("ahead(2, 0)", x.ahead(2, 0), NicheSaints.BAD);
        check.due("ahead(-1, 0)", x.ahead(-1, 0), NicheSaints.BAD);
        check.due("count(2)", x.count(2), 0);
        check.due("count(4)", x.count(4), 2);
        check.due("count(6)", x.count(6), 0);
        x.steps(1);
        check.due("ahead(0, 2) from STEP 1", x.ahead(0, 2), 0);
        check.due("ahead of givers", Check.of("r9;g1;h0;g3;").ahead(1, 1), 1);
    }

    private static void when() {
        NicheSaints x = Check.of("r9;o1;h2;");
        check.due("when(0, 1): now", x.when(0, 1), 0);
        check.due("when(1, 2)", x.when(1, 2), 0);
        check.due("when(1, 1): never", x.when(1, 1), NicheSaints.NONE);
        check.due("when(0, 0)", x.when(0, 0), NicheSaints.BAD);
        check.due("when(0, 10)", x.when(0, 10), NicheSaints.BAD);
        check.due("when(2, 1)", x.when(2, 1), NicheSaints.BAD);
        check.due("when(-1, 1)", x.when(-1, 1), NicheSaints.BAD);
        NicheSaints y = Check.of("r9;o2;h5;");
        check.due("when(1, 2): at MATINS", y.when(1, 2), 9);
        check.due("when(0, 5)", y.when(0, 5), 9);
        check.due("when(0, 9)", y.when(0, 9), NicheSaints.NONE);
        check.due("when: 60 STEPS on", Check.of("r6;p5;p6;o2;p4;s3;g7;g0;").when(2, 3), 60);
        check.due("when: 61 STEPS on", Check.of("r9;o6;h3;g8;p0;g2;g4;p7;").when(3, 3), NicheSaints.NONE);
        check.due("when: behind a giver's TURN", Check.of("r9;g1;g2;g3;").when(1, 3), 1);
        y.steps(5);
        check.due("when(1, 2) from STEP 5", y.when(1, 2), 4);
        check.due("count(2)", y.count(2), 5);
    }

    private static void pray() {
        NicheSaints x = Check.of("r3;o2;h5;");
        check.due("pray(2)", x.pray(2), 1);
        check.due("pray(5)", x.pray(5), 0);
        check.due("pray(1)", x.pray(1), NicheSaints.NONE);
        check.due("pray(9)", x.pray(9), NicheSaints.NONE);
        check.due("pray(0)", x.pray(0), NicheSaints.BAD);
        check.due("pray(10)", x.pray(10), NicheSaints.BAD);
        check.due("count(4)", x.count(4), 25);
        check.due("count(2)", x.count(2), 0);
        NicheSaints y = Check.of("r2;g1;g2;g3;");
        check.due("pray(2)", y.pray(2), 1);
        y.steps(1);
        check.due("pray(2): 1 STEP on", y.pray(2), 1);
        y.steps(1);
        y.night(1);
        check.due("pray(2): not the MATINS that were", y.pray(2), 2);
        y.night(9);
        check.due("pray(2): 7 STEPS on", y.pray(2), 2);
        check.due("pray of givers, 9 STEPS on", Check.of("r9;g1;g2;g3;").pray(3), 1);
        check.due("pray of one that is handed on at last", Check.of("r2;p1;h0;g3;").pray(1), 1);
    }

    private static void round() {
        check.due("two givers", Check.of("r9;g1;g2;").round(), 1);
        check.due("three givers", Check.of("r9;g1;g2;g3;").round(), 2);
        check.due("three proud ones, though STEP is odd then", Check.of("r9;p1;p2;p3;").round(), 3);
        check.due("none", Check.of("r9;g1;h0;").round(), NicheSaints.NONE);
        check.due("a hood", Check.of("r7;o0;g2;").round(), 7);
        NicheSaints x = Check.of("r9;p1;p2;p3;");
        x.steps(1);
        check.due("round() from STEP 1", x.round(), 1);
        check.due("count(2)", x.count(2), 1);
        // Six givers hand on in a cycle of five, with matins that take nothing: 5 STEPS.
        check.due("six givers", Check.of("r9;g1;g2;g3;g4;g5;g6;").round(), 5);
    }

    private static void home() {
        NicheSaints x = Check.of("r9;g1;g0;g3;g9;g5;");
        check.due("home(0)", x.home(0), 3);
        check.due("home(-1)", x.home(-1), NicheSaints.BAD);
        check.due("home(3)", x.home(3), NicheSaints.BAD);
        check.due("home(2)", x.home(2), 120);
        check.due("all", Check.of("r9;g1;g2;g3;g4;g5;g6;g7;").home(0), 7);
        check.due("nobody", Check.of("r9;g2;g1;").home(0), 0);
    }

    private static void order(String text, int place, int many) {
        NicheSaints x = Check.of(text);
        check.due("home(1) of " + text, x.home(1), place);
        check.due("home(2) of " + text, x.home(2), many);
    }

    private static void order() {
        order("r9;g0;g0;", 0, 1);
        order("r9;g1;g2;", 0, 2);
        order("r9;g9;g2;", 1, 2);
        order("r9;g0;g0;g5;", 0, 3);
        order("r9;g0;g5;g0;", 1, 3);
        order("r9;g5;g0;g0;", 2, 3);
        order("r9;g2;g3;g1;", 3, 6);
        order("r9;g7;g6;g5;g4;g3;g2;g1;", 5039, 5040);
        order("r9;g0;g0;g0;g0;g0;g0;g1;", 0, 7);
        order("r9;g0;g0;g9;g0;g0;g0;g0;", 4, 7);
        order("r9;g0;g0;g0;g0;g0;g0;g0;", 0, 1);
        order("r9;g2;g0;g1;g0;", 10, 12);
    }
}
