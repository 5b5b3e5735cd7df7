/** Promises 1 and 9 to 14 (a new object, steps, swap, night, undo, saint, holder), and 33 (count). */
public final class ActsTest {
    private static final Check check = new Check("ActsTest");

    public static void main(String[] args) {
        nobody();
        turns();
        taken();
        matins();
        stepsWrongly();
        fullOfSteps();
        byHand();
        nights();
        undone();
        forgotten();
        told();
        check.end();
    }

    private static void nobody() {
        NicheSaints x = new NicheSaints();
        for (int what = 0; what <= 7; what++) {
            check.due("count(" + what + ")", x.count(what), 0);
        }
        check.due("count(-1)", x.count(-1), NicheSaints.BAD);
        check.due("count(8)", x.count(8), NicheSaints.BAD);
        check.due("steps(0)", x.steps(0), NicheSaints.STATE);
        check.due("night(0)", x.night(0), NicheSaints.STATE);
        check.due("swap(0, 1)", x.swap(0, 1), NicheSaints.BAD);
        check.due("undo()", x.undo(), NicheSaints.STATE);
        check.due("saint(0, 0)", x.saint(0, 0), NicheSaints.BAD);
        check.due("holder(1)", x.holder(1), NicheSaints.NONE);
        check.due("holder(0)", x.holder(0), NicheSaints.BAD);
        check.due("restore(0)", x.restore(0), NicheSaints.STATE);
        check.due("trace(0)", x.trace(0), NicheSaints.NONE);
        check.due("status()", x.status(), 0);
        check.due("fault()", x.fault(), 0);
    }

    /** What the SAINTS of a text have, as figures, behind each STEP. */
    private static void turn(String text, int... figures) {
        NicheSaints x = Check.of(text);
        for (int i = 0; i < figures.length; i++) {
            check.due("steps(1) of " + text, x.steps(1), i + 1);
            check.due("count(4) of " + text + " behind STEP " + (i + 1), x.count(4), figures[i]);
        }
    }

    private static void turns() {
        turn("r9;g1;g2;", 12, 12);
        turn("r9;g1;g2;g3;", 132, 123, 132);
        turn("r9;g1;h2;", 12);
        turn("r9;g1;h0;", 1, 1);
        turn("r9;g0;h2;g3;", 320, 23, 320);
        turn("r9;s1;g2;", 21, 21);
        turn("r9;s2;h0;", 2, 2);
        turn("r9;s0;h2;", 2);
        turn("r9;s3;s2;s1;", 312, 321, 312);
        turn("r9;p1;p2;p3;", 132, 132, 123, 123, 132);
        turn("r9;p1;h0;", 1, 1);
        turn("r9;h1;h0;h2;", 102, 102);
        turn("r9;o0;g2;", 20, 20);
        turn("r9;o0;g1;g2;", 201, 210);
        turn("r9;p1;p2;o0;", 201, 201);
        turn("r9;h1;o0;p5;", 105, 105);
        turn("r9;o0;h2;", 2, 2);
        turn("r9;o1;g2;", 12, 12);
        turn("r9;h0;g1;o0;", 1, 1);
        turn("r9;g1;o0;", 1, 1);
        turn("r9;g0;g5;o0;", 500, 5, 5);
    }

    /** By hand the proud one has a THING again ahead of STEP 1, in which it keeps it: only the hood takes it. */
    private static void taken() {
        NicheSaints x = Check.of("r9;h1;p2;o0;");
        x.steps(1);
        check.due("count(4): handed on", x.count(4), 102);
        x.swap(1, 2);
        x.steps(1);
        check.due("count(4): taken by the hood", x.count(4), 102);
        x.swap(0, 2);
        x.swap(1, 2);
        check.due("count(4)", x.count(4), 210);
        x.night(5);
        x.steps(1);
        check.due("count(4): handed on, as STEP was 2", x.count(4), 201);
    }

    private static void matins() {
        turn("r3;o0;g2;", 20, 20, 2, 20);
        turn("r1;o1;h0;", 10, 10);
        turn("r1;o9;h0;", 90, 90);
        turn("r1;o3;h1;", 31);
        turn("r1;o2;h5;", 52, 52);
        turn("r2;o2;h5;", 25, 52, 52);
        turn("r1;o2;h0;", 2, 2);
        turn("r1;o2;o3;h1;", 321, 123, 123);
        turn("r1;h3;h1;o2;", 321, 123, 123);
        turn("r4;o2;h5;", 25, 25, 25, 52);
    }

    private static void stepsWrongly() {
        NicheSaints x = Check.of("r9;g1;g2;g3;");
        check.due("steps(0)", x.steps(0), NicheSaints.BAD);
        check.due("steps(25)", x.steps(25), NicheSaints.BAD);
        check.due("steps(-1)", x.steps(-1), NicheSaints.BAD);
        check.due("steps(MAX)", x.steps(Integer.MAX_VALUE), NicheSaints.BAD);
        check.due("count(2)", x.count(2), 0);
        check.due("count(6)", x.count(6), 0);
        check.due("steps(24)", x.steps(24), 24);
        check.due("count(6)", x.count(6), 24);
        check.due("steps(1)", x.steps(1), 25);
        check.due("count(4)", x.count(4), 132);
    }

    private static void fullOfSteps() {
        NicheSaints x = Check.of("r9;g1;g2;g3;");
        for (int i = 1; i <= 416; i++) {
            check.due("steps(24)", x.steps(24), 24 * i);
        }
        check.due("steps(16)", x.steps(16), NicheSaints.FULL);
        check.due("count(2)", x.count(2), 9984);
        check.due("steps(25): BAD is ahead of FULL", x.steps(25), NicheSaints.BAD);
        check.due("steps(15)", x.steps(15), 9999);
        check.due("steps(1)", x.steps(1), NicheSaints.FULL);
        check.due("ahead(1, 1): foretold beyond it", x.ahead(1, 1), 2);
        check.due("undo()", x.undo(), 23);
        check.due("count(2)", x.count(2), 9998);
        check.due("steps(1)", x.steps(1), 9999);
    }

    private static void byHand() {
        NicheSaints x = Check.of("r9;h1;h0;o3;");
        check.due("swap(0, 2)", x.swap(0, 2), 31);
        check.due("count(4)", x.count(4), 301);
        check.due("swap(2, 1)", x.swap(2, 1), 1);
        check.due("count(4)", x.count(4), 310);
        check.due("swap(1, 1)", x.swap(1, 1), NicheSaints.BAD);
        check.due("swap(3, 1)", x.swap(3, 1), NicheSaints.BAD);
        check.due("swap(1, 3)", x.swap(1, 3), NicheSaints.BAD);
        check.due("swap(-1, 1)", x.swap(-1, 1), NicheSaints.BAD);
        check.due("swap(1, -1)", x.swap(1, -1), NicheSaints.BAD);
        check.due("count(6)", x.count(6), 2);
        check.due("count(2)", x.count(2), 0);
    }

    private static void nights() {
        NicheSaints x = Check.of("r9;o2;h5;");
        check.due("night(0)", x.night(0), NicheSaints.BAD);
        check.due("night(10)", x.night(10), NicheSaints.BAD);
        check.due("count(6)", x.count(6), 0);
        check.due("night(9)", x.night(9), 9);
        check.due("night(3)", x.night(3), 9);
        check.due("night(2)", x.night(2), 3);
        check.due("count(3)", x.count(3), 2);
        x.steps(1);
        check.due("count(4)", x.count(4), 25);
        x.steps(1);
        check.due("count(4): MATINS behind the second STEP", x.count(4), 52);
        check.due("count(6)", x.count(6), 5);
    }

    private static void undone() {
        NicheSaints x = Check.of("r9;o2;h5;g0;");
        x.swap(0, 2);
        x.night(1);
        x.steps(2);
        check.due("count(6)", x.count(6), 4);
        check.due("count(2)", x.count(2), 2);
        check.due("undo()", x.undo(), 3);
        check.due("count(2)", x.count(2), 1);
        check.due("undo()", x.undo(), 2);
        check.due("count(2)", x.count(2), 0);
        check.due("count(4)", x.count(4), 52);
        check.due("count(3)", x.count(3), 1);
        check.due("undo()", x.undo(), 1);
        check.due("count(3)", x.count(3), 9);
        check.due("undo()", x.undo(), 0);
        check.due("count(4)", x.count(4), 250);
        check.due("undo()", x.undo(), NicheSaints.STATE);
        check.due("count(4)", x.count(4), 250);
    }

    private static void forgotten() {
        NicheSaints x = Check.of("r9;g1;g2;g3;");
        x.night(8);
        x.swap(0, 1);
        x.steps(24);
        check.due("count(6)", x.count(6), 24);
        x.swap(0, 1);
        check.due("count(6)", x.count(6), 24);
        check.due("undo()", x.undo(), 23);
        for (int left = 22; left >= 0; left--) {
            check.due("undo()", x.undo(), left);
        }
        check.due("count(2): the oldest STEP is forgotten", x.count(2), 1);
        check.due("count(3)", x.count(3), 8);
        check.due("count(4)", x.count(4), 231);
        check.due("undo()", x.undo(), NicheSaints.STATE);
        check.due("swap(0, 2)", x.swap(0, 2), 12);
        check.due("undo()", x.undo(), 0);
        check.due("count(4)", x.count(4), 231);
    }

    private static void told() {
        NicheSaints x = Check.of("r9;g1;s0;p3;h4;h0;o6;o0;");
        int[] things = {1, 0, 3, 4, 0, 6, 0};
        int[] lets = {1, 1, 1, 0, 1, 0, 1};
        for (int i = 0; i < 7; i++) {
            check.due("saint(" + i + ", 0)", x.saint(i, 0), things[i]);
            check.due("saint(" + i + ", 1)", x.saint(i, 1), lets[i]);
        }
        check.due("saint(-1, 0)", x.saint(-1, 0), NicheSaints.BAD);
        check.due("saint(7, 0)", x.saint(7, 0), NicheSaints.BAD);
        check.due("saint(0, -1)", x.saint(0, -1), NicheSaints.BAD);
        check.due("saint(0, 2)", x.saint(0, 2), NicheSaints.BAD);
        check.due("holder(1)", x.holder(1), 0);
        check.due("holder(6)", x.holder(6), 5);
        check.due("holder(2)", x.holder(2), NicheSaints.NONE);
        check.due("holder(9)", x.holder(9), NicheSaints.NONE);
        check.due("holder(0)", x.holder(0), NicheSaints.BAD);
        check.due("holder(10)", x.holder(10), NicheSaints.BAD);
        check.due("count(1)", x.count(1), 7);
        check.due("count(4)", x.count(4), 1034060);
        check.due("count(5)", x.count(5), 3);
        x.feed('r');
        x.row(3, 0, 0);
        check.due("count(7)", x.count(7), 1);
        check.due("count(0)", x.count(0), 1);
        check.due("count(8)", x.count(8), NicheSaints.BAD);
    }
}
