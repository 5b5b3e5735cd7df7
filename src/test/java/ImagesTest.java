/** Promises 27 and 28 (image, restore). */
public final class ImagesTest {
    private static final Check check = new Check("ImagesTest");

    public static void main(String[] args) {
        refused();
        kept();
        two();
        ofOthers();
        check.end();
    }

    private static void refused() {
        NicheSaints x = new NicheSaints();
        check.due("image(-1)", x.image(-1), NicheSaints.BAD);
        check.due("image(2)", x.image(2), NicheSaints.BAD);
        check.due("image(0)", x.image(0), NicheSaints.STATE);
        check.due("restore(-1)", x.restore(-1), NicheSaints.BAD);
        check.due("restore(2)", x.restore(2), NicheSaints.BAD);
        check.due("restore(0)", x.restore(0), NicheSaints.STATE);
        Check.read(x, "r1;g1;g2;");
        x.steps(1);
        check.due("image(0)", x.image(0), 1);
        check.due("restore(1)", x.restore(1), NicheSaints.STATE);
        check.due("count(6): nothing was changed", x.count(6), 1);
        check.due("restore(0)", x.restore(0), 1);
    }

    private static void kept() {
        NicheSaints x = Check.of("r5;g1;h2;g3;");
        x.steps(3);
        int figures = x.count(4);
        check.due("image(0)", x.image(0), 1);
        check.due("count(6) stays", x.count(6), 3);
        x.swap(0, 1);
        x.night(2);
        x.steps(4);
        check.due("restore(0)", x.restore(0), 1);
        check.due("count(2)", x.count(2), 3);
        check.due("count(3)", x.count(3), 5);
        check.due("count(4)", x.count(4), figures);
        check.due("count(6)", x.count(6), 0);
        check.due("undo()", x.undo(), NicheSaints.STATE);
        x.swap(0, 1);
        check.due("restore(0) once more", x.restore(0), 1);
        check.due("count(4)", x.count(4), figures);
    }

    private static void two() {
        NicheSaints x = Check.of("r5;h1;h2;");
        x.image(0);
        x.swap(0, 1);
        x.image(1);
        check.due("restore(0)", x.restore(0), 1);
        check.due("count(4)", x.count(4), 12);
        check.due("restore(1)", x.restore(1), 1);
        check.due("count(4)", x.count(4), 21);
        check.due("image(0)", x.image(0), 1);
        x.swap(0, 1);
        check.due("restore(0)", x.restore(0), 1);
        check.due("count(4): the later image", x.count(4), 21);
    }

    private static void ofOthers() {
        NicheSaints x = Check.of("r5;h1;o2;g3;");
        x.row(0, 0, 3);
        x.image(0);
        Check.read(x, "r7;g4;s0;");
        check.due("kind(1)", x.kind(1), 2);
        x.feed('r');
        x.drop(0);
        check.due("restore(0)", x.restore(0), 1);
        check.due("count(1)", x.count(1), 3);
        check.due("count(3)", x.count(3), 5);
        check.due("count(4)", x.count(4), 123);
        check.due("kind(1)", x.kind(1), 5);
        check.due("count(7): the tape is no SAINT", x.count(7), 1);
        check.due("count(0): nor is a ROW", x.count(0), 0);
    }
}
