/** Promises 20 to 22 (swaps, sort, plan). */
public final class ChangesTest {
    private static final int NULL = -1000011, PLACE = -1000012;
    private static final Check check = new Check("ChangesTest");

    public static void main(String[] args) {
        ofAnyTwo();
        otherThings();
        ofNeighbours();
        refused();
        planned();
        plannedAtMatins();
        plannedWrongly();
        check.end();
    }

    private static void swaps(String text, int many, int parity, int... things) {
        NicheSaints x = Check.of(text);
        Check.lay(x, 0, things);
        check.due("swaps(0, 0, 0) of " + text, x.swaps(0, 0, 0), many);
        check.due("swaps(0, 0, 1) of " + text, x.swaps(0, 0, 1), parity);
        check.due("status()", x.status(), 0);
    }

    private static void ofAnyTwo() {
        swaps("r1;g1;g2;", 0, 1, 1, 2);
        swaps("r1;g1;g2;", 1, 2, 2, 1);
        swaps("r1;g0;g2;", 1, 2, 2, 0);
        swaps("r1;g0;g2;", 0, 1, 0, 2);
        swaps("r1;g0;g0;", 0, 3, 0, 0);
        swaps("r1;g1;g2;g3;", 2, 1, 2, 3, 1);
        swaps("r1;g1;g2;g3;", 1, 2, 3, 2, 1);
        swaps("r1;g1;g2;g3;g4;", 2, 1, 2, 1, 4, 3);
        swaps("r1;g1;g2;g3;g4;", 3, 2, 2, 3, 4, 1);
        swaps("r1;g1;g0;g3;g0;", 2, 3, 0, 1, 0, 3);
        swaps("r1;g1;g2;g0;g0;", 2, 3, 0, 0, 1, 2);
        swaps("r1;g1;g2;g0;g0;", 1, 3, 2, 1, 0, 0);
        swaps("r1;g1;g2;g3;g4;g5;g6;g7;", 6, 1, 2, 3, 4, 5, 6, 7, 1);
        swaps("r1;g1;g2;g3;g4;g5;g6;g7;", 3, 2, 2, 1, 4, 3, 6, 5, 7);
        swaps("r1;g0;g2;g3;g4;g5;g6;g7;", 6, 1, 2, 3, 4, 5, 6, 7, 0);
    }

    private static void otherThings() {
        swaps("r1;g1;g2;", NicheSaints.NONE, NicheSaints.NONE, 1, 3);
        swaps("r1;g1;g2;", NicheSaints.NONE, NicheSaints.NONE, 1, 1);
        swaps("r1;g1;g2;", NicheSaints.NONE, NicheSaints.NONE, 1, 0);
        swaps("r1;g1;g0;", NicheSaints.NONE, NicheSaints.NONE, 0, 0);
        swaps("r1;g1;g0;g0;", NicheSaints.NONE, NicheSaints.NONE, 1, 0, 2);
        swaps("r1;g1;g2;", NicheSaints.NONE, NicheSaints.NONE, -1, 2);
        swaps("r1;g1;g2;", NicheSaints.NONE, NicheSaints.NONE, Integer.MAX_VALUE, Integer.MIN_VALUE);
        NicheSaints x = Check.of("r1;g1;g2;");
        Check.lay(x, 0, 1, 12);
        check.due("sort(0, 0, -1)", x.sort(0, 0, -1), NicheSaints.NONE);
        check.due("sort(0, 0, 0)", x.sort(0, 0, 0), NicheSaints.NONE);
        check.due("status()", x.status(), 0);
    }

    private static void sort(String text, int[] things, int... places) {
        NicheSaints x = Check.of(text);
        Check.lay(x, 7, things);
        check.due("sort(7, 0, -1) of " + text, x.sort(7, 0, -1), places.length);
        for (int k = 0; k < places.length; k++) {
            check.due("sort(7, 0, " + k + ") of " + text, x.sort(7, 0, k), places[k]);
        }
        check.due("sort of one more", x.sort(7, 0, places.length), NicheSaints.NONE);
        check.due("sort of many more", x.sort(7, 0, Integer.MAX_VALUE), NicheSaints.NONE);
        check.due("status()", x.status(), 0);
    }

    private static int[] row(int... things) {
        return things;
    }

    private static void ofNeighbours() {
        sort("r1;g1;g2;", row(1, 2));
        sort("r1;g1;g2;", row(2, 1), 0);
        sort("r1;g0;g0;", row(0, 0));
        sort("r1;g1;g2;g3;", row(3, 2, 1), 0, 1, 0);
        sort("r1;g1;g2;g3;", row(2, 3, 1), 0, 1);
        sort("r1;g1;g2;g3;", row(3, 1, 2), 1, 0);
        sort("r1;g1;g0;g0;", row(0, 0, 1), 0, 1);
        sort("r1;g0;g1;g0;", row(0, 0, 1), 1);
        sort("r1;g0;g0;g1;", row(0, 1, 0), 1);
        sort("r1;g0;g1;g2;g0;", row(1, 0, 0, 2), 0, 2);
        sort("r1;g7;g6;g5;g4;g3;g2;g1;", row(1, 2, 3, 4, 5, 6, 7),
                0, 1, 0, 2, 1, 0, 3, 2, 1, 0, 4, 3, 2, 1, 0, 5, 4, 3, 2, 1, 0);
    }

    private static void refused() {
        NicheSaints x = new NicheSaints();
        check.due("swaps, no SAINTS", x.swaps(8, 0, 2), NicheSaints.STATE);
        check.due("sort, no SAINTS", x.sort(8, 0, -2), NicheSaints.STATE);
        Check.read(x, "r1;g1;g2;g3;");
        check.due("swaps of a missing ROW", x.swaps(0, -1, 0), NULL);
        check.due("status()", x.status(), 1);
        check.due("sort of a missing ROW", x.sort(7, -1, 0), NULL);
        Check.lay(x, 0, 9, 3, 1, 2);
        check.due("swaps(0, 1, 0)", x.swaps(0, 1, 0), 2);
        check.due("sort(0, 1, -1)", x.sort(0, 1, -1), 2);
        check.due("status()", x.status(), 0);
        check.due("swaps(0, 0, 0)", x.swaps(0, 0, 0), NicheSaints.NONE);
        check.due("swaps(0, 2, 0)", x.swaps(0, 2, 0), PLACE);
        check.due("swaps(0, -1, 0)", x.swaps(0, -1, 0), PLACE);
        check.due("swaps(0, MAX, 0)", x.swaps(0, Integer.MAX_VALUE, 0), PLACE);
        check.due("sort(0, 2, 0)", x.sort(0, 2, 0), PLACE);
        check.due("sort(0, -1, 0)", x.sort(0, -1, 0), PLACE);
        check.due("status()", x.status(), 2);
        check.due("swaps(8, 0, 0)", x.swaps(8, 0, 0), NicheSaints.BAD);
        check.due("swaps(-1, 0, 0)", x.swaps(-1, 0, 0), NicheSaints.BAD);
        check.due("swaps(0, 1, 2)", x.swaps(0, 1, 2), NicheSaints.BAD);
        check.due("swaps(0, 1, -1)", x.swaps(0, 1, -1), NicheSaints.BAD);
        check.due("sort(8, 0, 0)", x.sort(8, 0, 0), NicheSaints.BAD);
        check.due("sort(0, 1, -2)", x.sort(0, 1, -2), NicheSaints.BAD);
        check.due("BAD is ahead of NULL", x.sort(3, 0, -2), NicheSaints.BAD);
        check.due("status()", x.status(), 2);
        check.due("sort(0, 1, 0)", x.sort(0, 1, 0), 1);
        check.due("status()", x.status(), 0);
        x.sort(0, 2, 0);
        check.due("swaps(0, 1, 1)", x.swaps(0, 1, 1), 1);
        check.due("status()", x.status(), 0);
        check.due("count(4)", x.count(4), 123);
        check.due("count(6)", x.count(6), 0);
    }

    private static void plan(NicheSaints x, int saint, int thing, int... changes) {
        String call = "plan(" + saint + ", " + thing + ", ";
        check.due(call + "-1)", x.plan(saint, thing, -1), changes.length);
        for (int k = 0; k <= 1; k++) {
            check.due(call + k + ")", x.plan(saint, thing, k), k < changes.length ? changes[k] : NicheSaints.NONE);
        }
    }

    private static void none(NicheSaints x, int saint, int thing) {
        for (int k = -1; k <= 1; k++) {
            check.due("plan(" + saint + ", " + thing + ", " + k + ")", x.plan(saint, thing, k), NicheSaints.NONE);
        }
    }

    private static void planned() {
        NicheSaints x = Check.of("r1;h1;h2;h3;h0;h5;h6;h7;");
        plan(x, 0, 1);
        plan(x, 0, 2, 1);
        plan(x, 1, 1, 1);
        plan(x, 1, 3, 12);
        plan(x, 6, 6, 56);
        plan(x, 3, 7, 36);
        none(x, 0, 4);
        none(x, 0, 9);
        check.due("count(4)", x.count(4), 1230567);
        check.due("count(6)", x.count(6), 0);
        // The giver hands on to the one that holds only while that has none.
        NicheSaints y = Check.of("r1;g1;h2;h0;");
        plan(y, 1, 1, 1);
        plan(y, 2, 2, 12);
        plan(y, 0, 2, 1);
        // SAINT 1 keeps 3 or hands it on, so that two changes must bring it and free the way.
        NicheSaints z = Check.of("r1;h1;g2;h0;h3;");
        plan(z, 2, 3, 13);
        plan(z, 1, 3, 2, 13);
    }

    private static void plannedAtMatins() {
        NicheSaints x = Check.of("r2;o2;h5;h0;");
        plan(x, 1, 2);
        plan(x, 0, 5);
        none(x, 0, 2);
        plan(x, 2, 5, 12);
        x.steps(1);
        plan(x, 1, 2);
        x.steps(1);
        check.due("count(4)", x.count(4), 520);
        plan(x, 0, 5);
    }

    private static void plannedWrongly() {
        NicheSaints x = Check.of("r1;h1;h2;");
        check.due("plan(2, 1, -1)", x.plan(2, 1, -1), NicheSaints.BAD);
        check.due("plan(-1, 1, -1)", x.plan(-1, 1, -1), NicheSaints.BAD);
        check.due("plan(0, 0, -1)", x.plan(0, 0, -1), NicheSaints.BAD);
        check.due("plan(0, 10, -1)", x.plan(0, 10, -1), NicheSaints.BAD);
        check.due("plan(0, 1, -2)", x.plan(0, 1, -2), NicheSaints.BAD);
        check.due("plan(0, 1, 2)", x.plan(0, 1, 2), NicheSaints.BAD);
    }
}
