/** The edges of what is foretold of things and orders (Terms, part 3; promises 15 to 22). */
public final class ForetoldEdgesTest {
    private static final int NONE = NicheSaints.NONE, BAD = NicheSaints.BAD;
    private static final Check check = new Check("ForetoldEdgesTest");

    public static void main(String[] args) {
        nothingChanges();
        ahead();
        when();
        pray();
        round();
        home();
        order();
        swaps();
        parity();
        otherThings();
        told();
        sort();
        sortBeyond();
        notAroundTheRing();
        planned();
        plannedFirst();
        check.end();
    }

    /** Five SAINTS with ACTS, an IMAGE, half a text, a TRACE; ROW 0 tells THINGS in another order. */
    private static void past(NicheSaints x) {
        Check.read(x, "r3;g1;s2;p0;h4;o0;");
        x.steps(2);
        x.image(1);
        x.swap(0, 3);
        x.night(5);
        Check.lay(x, 0, 0, 4, 2, 1, 0);
        Check.feed(x, "r4;g1;s");
        x.ask(1, 0);
        x.as(0, 5);
    }

    private static void nothingChanges() {
        check.of("Terms 3", "FORETOLD (nothing changes)");
        Twins twins = new Twins(check, "foretold", ForetoldEdgesTest::past);
        for (int d = 0; d <= 60; d += 30) {
            int far = d;
            twins.tells("ahead(0, " + far + ")", x -> x.ahead(0, far), twins.one().ahead(0, far));
        }
        for (int thing = 1; thing <= 9; thing++) {
            int t = thing;
            twins.tells("when(1, " + t + ")", x -> x.when(1, t), twins.one().when(1, t));
            twins.tells("pray(" + t + ")", x -> x.pray(t), twins.one().pray(t));
            twins.tells("plan(2, " + t + ", -1)", x -> x.plan(2, t, -1), twins.one().plan(2, t, -1));
            twins.tells("plan(3, " + t + ", 0)", x -> x.plan(3, t, 0), twins.one().plan(3, t, 0));
            twins.tells("sleep(3, " + t + ", 5, 0)", x -> x.sleep(3, t, 5, 0), twins.one().sleep(3, t, 5, 0));
        }
        twins.tells("round()", x -> x.round(), twins.one().round());
        for (int what = 0; what <= 2; what++) {
            int w = what;
            twins.tells("home(" + w + ")", x -> x.home(w), twins.one().home(w));
        }
        for (int what = 0; what <= 1; what++) {
            int w = what;
            twins.tellsOfRow("swaps(0, 0, " + w + ")", x -> x.swaps(0, 0, w), twins.one().swaps(0, 0, w));
            twins.tellsOfRow("sort(0, 0, " + w + ")", x -> x.sort(0, 0, w), twins.one().sort(0, 0, w));
            int fitting = twins.one().fits(2, 0, 1, 3, w);
            twins.tellsOfRow("fits(2, 0, 1, 3, " + w + ")", x -> x.fits(2, 0, 1, 3, w), fitting);
            int begun = twins.one().began(2, 0, 1, 1, w);
            twins.tellsOfRow("began(2, 0, 1, 1, " + w + ")", x -> x.began(2, 0, 1, 1, w), begun);
            twins.tells("drawn(60, 5, " + w + ")", x -> x.drawn(60, 5, w), twins.one().drawn(60, 5, w));
        }
    }

    private static void ahead() {
        check.of("Terms 3", "THING of a SAINT d STEPS on (0 to 60)");
        NicheSaints x = Check.of("r6;o0;g2;");
        check.due("ahead(0, 0)", x.ahead(0, 0), 0);
        check.due("ahead(1, 0)", x.ahead(1, 0), 2);
        check.due("ahead(0, 1)", x.ahead(0, 1), 2);
        check.due("ahead(0, 6)", x.ahead(0, 6), 0);
        check.due("ahead(0, 59)", x.ahead(0, 59), 2);
        check.due("ahead(0, 60)", x.ahead(0, 60), 0);
        check.due("ahead(1, 60): the last SAINT", x.ahead(1, 60), 2);
        check.due("ahead(0, 61)", x.ahead(0, 61), BAD);
        check.due("ahead(0, -1)", x.ahead(0, -1), BAD);
        check.due("ahead(2, 0)", x.ahead(2, 0), BAD);
        check.due("ahead(-1, 0)", x.ahead(-1, 0), BAD);
    }

    private static void when() {
        check.of("Terms 3", "WHEN: behind how many STEPS (0 to 60) a SAINT has a THING first; NONE");
        NicheSaints x = Check.of("r6;o9;g1;");
        check.due("when(0, 9): now", x.when(0, 9), 0);
        check.due("when(1, 1): now", x.when(1, 1), 0);
        check.due("when(1, 9): never", x.when(1, 9), NONE);
        check.due("when(0, 2): nobody has it", x.when(0, 2), NONE);
        check.due("when(0, 0)", x.when(0, 0), BAD);
        check.due("when(0, 10)", x.when(0, 10), BAD);
        String sixty = "r6;p5;p6;o2;p4;s3;g7;g0;";
        check.due("when: 60 STEPS on", Check.of(sixty).when(2, 3), 60);
        check.due("ahead: so it is", Check.of(sixty).ahead(2, 60), 3);
        String more = "r9;o6;h3;g8;p0;g2;g4;p7;";
        NicheSaints y = Check.of(more);
        check.due("when: 61 STEPS on", y.when(3, 3), NONE);
        y.steps(1);
        check.due("when: a STEP later, 60 STEPS on", y.when(3, 3), 60);
        check.due("ahead: so it is", y.ahead(3, 60), 3);
        check.of("Terms 3", "has a THING first (not later)");
        NicheSaints z = Check.of("r2;o0;g2;");
        check.due("when(0, 2)", z.when(0, 2), 1);
        z.steps(1);
        check.due("when(1, 2)", z.when(1, 2), 1);
        check.due("when(0, 2)", z.when(0, 2), 0);
    }

    private static void pray() {
        check.of("Terms 3", "right behind the next MATINS (that are behind 1 STEP or more)");
        NicheSaints one = Check.of("r1;o2;h5;h3;");
        check.due("pray(2): behind 1 STEP", one.pray(2), 1);
        check.due("pray(5)", one.pray(5), 0);
        one.steps(1);
        one.swap(0, 2);
        check.due("pray(3) at MATINS, the next ones behind 1 STEP", one.pray(3), 2);
        for (int night = 1; night <= 9; night++) {
            NicheSaints x = Check.of("r" + night + ";g1;g2;g3;");
            check.due("pray(3) " + night + " STEPS on", x.pray(3), night % 2 == 0 ? 2 : 1);
            x.steps(night);
            check.due("pray(1) at MATINS", x.pray(1), 0);
            check.due("pray(3) at MATINS, " + night + " STEPS on", x.pray(3), 2 - (2 * night) % 2);
            if (night > 1) {
                x.steps(night - 1);
                check.due("pray(3) 1 STEP on", x.pray(3), 2);
            }
        }
        check.of("Terms 3", "NONE: nobody has");
        NicheSaints y = Check.of("r9;g1;g0;");
        check.due("pray(2)", y.pray(2), NONE);
        check.due("pray(9)", y.pray(9), NONE);
        check.due("pray(0): none is no THING", y.pray(0), BAD);
        check.due("pray(10)", y.pray(10), BAD);
        check.due("pray(9) of the last SAINT", Check.of("r1;h1;h9;").pray(9), 1);
    }

    private static void round() {
        check.of("Terms 3", "ROUND: behind how many STEPS (1 to 200) each SAINT has what it has now first; NONE");
        check.due("round(): nothing ever moves, but 1 STEP", Check.of("r9;h1;h2;").round(), 1);
        check.due("round(): all have none", Check.of("r1;g0;g0;g0;g0;g0;g0;g0;").round(), 1);
        check.due("round(): 7 givers", Check.of("r9;g1;g2;g3;g4;g5;g6;g7;").round(), 6);
        check.due("round(): 199", Check.of("r4;g1;g2;p0;p5;g3;o4;").round(), 199);
        check.due("round(): 200", Check.of("r5;g1;g0;g4;g6;p5;p0;o3;").round(), 200);
        check.due("round(): 201", Check.of("r5;g0;g3;p1;p0;p5;g2;o4;").round(), NONE);
        check.due("round(): never", Check.of("r9;g1;h0;").round(), NONE);
        check.of("Terms 3", "each SAINT (not some of them)");
        check.due("round(): SAINT 0 has it at once", Check.of("r9;h1;g2;g3;g4;").round(), 3);
    }

    private static void home() {
        check.of("Terms 3", "HOME: how many SAINTS have the THING of their number and 1");
        check.due("home(0): all", Check.of("r1;g1;g2;g3;g4;g5;g6;g7;").home(0), 7);
        check.due("home(0): nobody", Check.of("r1;g0;g1;g2;g3;g4;g5;g6;").home(0), 0);
        check.due("home(0): the last alone", Check.of("r1;g0;g2;").home(0), 1);
        check.due("home(0): the first alone", Check.of("r1;g1;g0;").home(0), 1);
        check.of("Promise 19", "HOME (what = 0), ORDER (1), how many rows of the THINGS there are (2)");
        NicheSaints x = Check.of("r1;g2;g1;");
        check.due("home(-1)", x.home(-1), BAD);
        check.due("home(3)", x.home(3), BAD);
        check.due("home(1)", x.home(1), 1);
        check.due("home(2)", x.home(2), 2);
    }

    private static void order(String text, int place, int many) {
        NicheSaints x = Check.of(text);
        check.due("home(1) of " + text, x.home(1), place);
        check.due("home(2) of " + text, x.home(2), many);
    }

    private static void order() {
        check.of("Terms 3", "ORDER: of all rows, the least first, the place of the one that is now (0 on)");
        order("r1;g1;g2;", 0, 2);
        order("r1;g2;g1;", 1, 2);
        order("r1;g1;g2;g3;g4;g5;g6;g7;", 0, 5040);
        order("r1;g3;g4;g5;g6;g7;g8;g9;", 0, 5040);
        order("r1;g9;g8;g7;g6;g5;g4;g3;", 5039, 5040);
        order("r1;g1;g2;g3;g4;g5;g7;g6;", 1, 5040);
        order("r1;g9;g8;g7;g6;g5;g3;g4;", 5038, 5040);
        check.of("Terms 3", "(as many times 0 as now, too)");
        order("r1;g0;g0;", 0, 1);
        order("r1;g0;g9;", 0, 2);
        order("r1;g9;g0;", 1, 2);
        order("r1;g0;g0;g0;g0;g0;g0;g0;", 0, 1);
        order("r1;g9;g0;g0;g0;g0;g0;g0;", 6, 7);
        order("r1;g0;g1;g2;g3;g4;g5;g6;", 0, 5040);
        order("r1;g6;g5;g4;g3;g2;g1;g0;", 5039, 5040);
        order("r1;g5;g4;g3;g2;g1;g0;g0;", 2519, 2520);
        order("r1;g0;g0;g1;g2;g3;g4;g5;", 0, 2520);
        order("r1;g2;g1;g0;g0;g0;g0;g0;", 41, 42);
    }

    private static int swapsOf(String text, int what, int... things) {
        NicheSaints x = Check.of(text);
        Check.lay(x, 0, things);
        int answer = x.swaps(0, 0, what);
        check.due("status()", x.status(), 0);
        return answer;
    }

    private static void swaps() {
        check.of("Terms 3", "SWAPS: the fewest changes of any two SAINTS by which they have these: how many");
        check.due("none: as it is", swapsOf("r1;g1;g2;", 0, 1, 2), 0);
        check.due("one", swapsOf("r1;g1;g2;", 0, 2, 1), 1);
        check.due("of the first and the last", swapsOf("r1;h1;h2;h3;h4;h5;h6;h7;", 0, 7, 2, 3, 4, 5, 6, 1), 1);
        check.due("six: all in one ring", swapsOf("r1;o1;o2;o3;o4;o5;o6;o7;", 0, 7, 1, 2, 3, 4, 5, 6), 6);
        check.due("all have none", swapsOf("r1;g0;g0;g0;g0;g0;g0;g0;", 0, 0, 0, 0, 0, 0, 0, 0), 0);
        check.due("nones stay where they can", swapsOf("r1;g1;g0;g0;", 0, 0, 0, 1), 1);
        check.due("six, with one none", swapsOf("r1;g1;g2;g3;g4;g5;g6;g0;", 0, 0, 1, 2, 3, 4, 5, 6), 6);
        check.due("five, with two", swapsOf("r1;g1;g2;g3;g4;g5;g0;g0;", 0, 0, 1, 2, 3, 4, 5, 0), 5);
    }

    private static void parity() {
        check.of("Terms 3", "can be even (1), odd (2), or both (3: two or more have none)");
        check.due("none needed: even", swapsOf("r1;g1;g2;", 1, 1, 2), 1);
        check.due("one: odd", swapsOf("r1;g1;g2;", 1, 2, 1), 2);
        check.due("two: even", swapsOf("r1;g1;g2;g3;", 1, 3, 1, 2), 1);
        check.due("one none: even", swapsOf("r1;g0;g2;", 1, 0, 2), 1);
        check.due("one none: odd", swapsOf("r1;g0;g2;", 1, 2, 0), 2);
        check.due("two none: both, though none is needed", swapsOf("r1;g0;g0;", 1, 0, 0), 3);
        check.due("two none: both", swapsOf("r1;g0;g1;g0;", 1, 1, 0, 0), 3);
        check.due("seven none: both", swapsOf("r1;g0;g0;g0;g0;g0;g0;g0;", 1, 0, 0, 0, 0, 0, 0, 0), 3);
    }

    private static void otherThings() {
        check.of("Terms 3", "NONE: other THINGS");
        int[][] others = {{1, 3, 0}, {1, 1, 0}, {1, 2, 2}, {1, 0, 0}, {0, 0, 0}, {1, 2, -1}, {1, 2, 10}, {1, 2, 256},
            {1, 2, Integer.MIN_VALUE}, {Integer.MAX_VALUE, 2, 0}};
        for (int[] other : others) {
            for (int what = 0; what <= 1; what++) {
                check.due("swaps of " + java.util.Arrays.toString(other), swapsOf("r1;g1;g2;g0;", what, other), NONE);
            }
            NicheSaints x = Check.of("r1;g1;g2;g0;");
            Check.lay(x, 0, other);
            x.as(0, 5);
            for (int k : new int[] {-1, 0, 1, Integer.MAX_VALUE}) {
                check.due("sort of " + java.util.Arrays.toString(other), x.sort(0, 0, k), NONE);
                check.due("status(): NONE is no FINDING", x.status(), 0);
            }
        }
    }

    /** Of a ROW of five ITEMS the three places 0, 1, 2 can be told from. */
    private static void told() {
        check.of("Terms 3", "A row tells THINGS, SAINT by SAINT (as many ITEMS as SAINTS)");
        NicheSaints x = Check.of("r1;g1;g2;g3;");
        Check.lay(x, 7, 1, 2, 3, 1, 2);
        int[] many = {0, 2, 2};
        for (int i = 0; i <= 2; i++) {
            check.due("swaps(7, " + i + ", 0)", x.swaps(7, i, 0), many[i]);
            check.due("sort(7, " + i + ", -1)", x.sort(7, i, -1), many[i]);
        }
        for (int i : Check.beside(0, 2)) {
            check.due("swaps(7, " + i + ", 0)", x.swaps(7, i, 0), -1000012);
            check.due("sort(7, " + i + ", -1)", x.sort(7, i, -1), -1000012);
            check.due("status()", x.status(), 2);
        }
        Check.lay(x, 6, 3, 2, 1);
        check.due("swaps(6, 0, 0): as many as SAINTS", x.swaps(6, 0, 0), 1);
        Check.lay(x, 6, 3, 2);
        check.due("swaps(6, 0, 0): one fewer", x.swaps(6, 0, 0), -1000012);
        check.due("sort(6, 0, 0): one fewer", x.sort(6, 0, 0), -1000012);
        x.row(5, 0, 40);
        x.set(5, 37, 2);
        x.set(5, 38, 257);
        x.set(5, 39, 3);
        check.due("swaps(5, 37, 0): bytes, up to the end", x.swaps(5, 37, 0), 1);
        check.due("sort(5, 37, 0)", x.sort(5, 37, 0), 0);
        check.due("swaps(5, 38, 0)", x.swaps(5, 38, 0), -1000012);
        x.row(4, 1, 0);
        check.due("swaps(4, 0, 0) of an empty ROW", x.swaps(4, 0, 0), -1000012);
    }

    private static void sorted(String text, int[] things, int... places) {
        NicheSaints x = Check.of(text);
        Check.lay(x, 0, things);
        check.due("sort(0, 0, -1) of " + text, x.sort(0, 0, -1), places.length);
        for (int k = 0; k < places.length; k++) {
            check.due("sort(0, 0, " + k + ") of " + text, x.sort(0, 0, k), places[k]);
        }
        check.due("sort(0, 0, " + places.length + ") of " + text, x.sort(0, 0, places.length), NONE);
    }

    private static void sort() {
        check.of("Terms 3", "SORT: how many; a of the k-th, always the least a behind which fewer are left; NONE");
        sorted("r1;g1;g2;", new int[] {1, 2});
        sorted("r1;g1;g2;", new int[] {2, 1}, 0);
        sorted("r1;g1;g2;g3;g4;g5;g6;g7;", new int[] {1, 2, 3, 4, 5, 7, 6}, 5);
        sorted("r1;g1;g2;g3;g4;g5;g6;g7;", new int[] {2, 1, 3, 4, 5, 7, 6}, 0, 5);
        sorted("r1;h1;h2;h3;h4;h5;h6;h7;", new int[] {7, 6, 5, 4, 3, 2, 1},
                0, 1, 0, 2, 1, 0, 3, 2, 1, 0, 4, 3, 2, 1, 0, 5, 4, 3, 2, 1, 0);
        sorted("r1;g0;g0;g0;g0;g0;g0;g0;", new int[] {0, 0, 0, 0, 0, 0, 0});
        sorted("r1;g0;g0;g0;g0;g0;g0;g9;", new int[] {9, 0, 0, 0, 0, 0, 0}, 5, 4, 3, 2, 1, 0);
        sorted("r1;g9;g0;g0;g0;g0;g0;g0;", new int[] {0, 0, 0, 0, 0, 0, 9}, 0, 1, 2, 3, 4, 5);
    }

    private static void sortBeyond() {
        check.of("Promise 21", "how many (k = -1), the k-th (0 on; NONE: there are fewer) .. BAD: k below -1");
        NicheSaints x = Check.of("r1;g1;g2;g3;");
        Check.lay(x, 0, 3, 2, 1);
        int[] due = {BAD, 3, 0, 1, 0, NONE, NONE};
        for (int k = -2; k <= 4; k++) {
            check.due("sort(0, 0, " + k + ")", x.sort(0, 0, k), due[k + 2]);
        }
        for (int k : new int[] {21, 22, 40, 1000000, Integer.MAX_VALUE}) {
            check.due("sort(0, 0, " + k + ")", x.sort(0, 0, k), NONE);
            check.due("status()", x.status(), 0);
        }
        check.due("sort(0, 0, MIN)", x.sort(0, 0, Integer.MIN_VALUE), BAD);
    }

    private static void notAroundTheRing() {
        check.of("Terms 3", "changes of SAINTS a, and a and 1 (not of the last one and 0)");
        sorted("r1;g1;g2;g3;", new int[] {3, 2, 1}, 0, 1, 0);
        sorted("r1;g1;g2;g3;g4;", new int[] {4, 1, 2, 3}, 2, 1, 0);
        sorted("r1;g1;g2;g3;g4;", new int[] {2, 3, 4, 1}, 0, 1, 2);
    }

    private static void plan(NicheSaints x, int saint, int thing, int... changes) {
        String call = "plan(" + saint + ", " + thing + ", ";
        check.due(call + "-1)", x.plan(saint, thing, -1), changes.length);
        for (int k = 0; k <= 1; k++) {
            check.due(call + k + ")", x.plan(saint, thing, k), k < changes.length ? changes[k] : NONE);
        }
    }

    private static void planned() {
        check.of("Terms 3", "PLAN: the fewest changes by hand now (0 to 2, of any two): how many; NONE");
        NicheSaints x = Check.of("r1;h1;h2;h3;h4;h5;h6;h9;");
        plan(x, 0, 1);
        plan(x, 6, 9);
        plan(x, 0, 2, 1);
        plan(x, 0, 9, 6);
        plan(x, 6, 1, 6);
        plan(x, 6, 6, 56);
        plan(x, 5, 9, 56);
        plan(Check.of("r1;h1;g2;h0;h3;"), 1, 3, 2, 13);
        for (int k = -1; k <= 1; k++) {
            check.due("plan(0, 8, " + k + "): nobody has it", x.plan(0, 8, k), NONE);
            check.due("plan: one in a hood gives 2 back, whatever is changed",
                    Check.of("r1;o2;h5;h0;").plan(0, 2, k), NONE);
        }
        check.of("Promise 22", "PLAN (THING 1 to 9): how many (k = -1), the k-th (0 on; NONE: there are fewer)");
        check.due("plan(0, 0, -1)", x.plan(0, 0, -1), BAD);
        check.due("plan(0, 10, -1)", x.plan(0, 10, -1), BAD);
        check.due("plan(0, 1, -2)", x.plan(0, 1, -2), BAD);
        check.due("plan(0, 1, 2)", x.plan(0, 1, 2), BAD);
        check.due("plan(7, 1, -1)", x.plan(7, 1, -1), BAD);
        check.due("plan(-1, 1, -1)", x.plan(-1, 1, -1), BAD);
    }

    private static void plannedFirst() {
        check.of("Terms 3", "the k-th (10 times the lesser, and the greater SAINT), of several rows the first");
        // By 23 the giver would have 1 and hand it on to SAINT 0 as well.
        plan(Check.of("r1;h0;h0;h1;g0;"), 0, 1, 2);
        // The giver keeps 3 only if the one behind it has a THING: 13 brings 3, 2 a THING, in either order.
        plan(Check.of("r1;h1;g2;h0;h3;"), 1, 3, 2, 13);
        // The proud one, the last, keeps 8 if SAINT 0 has a THING: the least and the greatest change there are.
        plan(Check.of("r2;h0;h6;h0;h0;s4;h8;p1;"), 6, 8, 1, 56);
        plan(Check.of("r2;h0;h0;h0;g0;h0;h4;h3;"), 3, 3, 36, 45);
        // Three are changed: by 45 and 56, by 46 and 45, or by 56 and 46.
        plan(Check.of("r2;h0;h0;h0;h0;h9;g0;h2;"), 5, 2, 45, 56);
    }
}
