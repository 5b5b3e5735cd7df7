/** Promises 6 to 8 (feed, saints, fault), and what of a new object they change. */
public final class TextTest {
    private static final Check check = new Check("TextTest");

    public static void main(String[] args) {
        fed();
        read();
        faults();
        endings();
        room();
        staleBytes();
        inPlaceOfTheOneBefore();
        allStays();
        check.end();
    }

    private static void fed() {
        NicheSaints x = new NicheSaints();
        check.due("feed(0)", x.feed(0), 1);
        check.due("feed(255)", x.feed(255), 2);
        check.due("feed(-1)", x.feed(-1), NicheSaints.BAD);
        check.due("feed(256)", x.feed(256), NicheSaints.BAD);
        for (int i = 3; i <= 50; i++) {
            check.due("feed 'r'", x.feed('r'), i);
        }
        check.due("feed beyond 50", x.feed('r'), NicheSaints.FULL);
        check.due("BAD is ahead of FULL", x.feed(256), NicheSaints.BAD);
        check.due("count(7)", x.count(7), 50);
        check.due("saints()", x.saints(), -1000100);
        check.due("count(7)", x.count(7), 0);
        check.due("feed again", x.feed('r'), 1);
    }

    private static void read() {
        NicheSaints x = new NicheSaints();
        check.due("fault() before one", x.fault(), 0);
        check.due("five KINDS", Check.read(x, "r7;g9;s8;p0;h1;o0;"), 5);
        for (int i = 0; i < 5; i++) {
            check.due("kind(" + i + ")", x.kind(i), i + 1);
        }
        check.due("count(3)", x.count(3), 7);
        check.due("count(4)", x.count(4), 98010);
        check.due("fault()", x.fault(), 0);
        check.due("seven, all with none", Check.read(x, "r9;g0;g0;g0;g0;g0;g0;g0;"), 7);
        check.due("two figures", Check.read(x, "r09;g01;s00;"), 2);
        check.due("count(3)", x.count(3), 9);
        check.due("count(4)", x.count(4), 10);
        check.due("two", Check.read(x, "r1;o2;h1;"), 2);
    }

    private static void fault(String text, int place, int number) {
        NicheSaints x = new NicheSaints();
        check.due("saints() of " + text, Check.read(x, text), -1000100 - place);
        check.due("fault() of " + text, x.fault(), number);
        check.due("count(1) of " + text, x.count(1), 0);
        check.due("count(7) of " + text, x.count(7), 0);
    }

    private static void faults() {
        fault("g1;g2;", 0, 1);
        fault("R1;g1;g2;", 0, 1);
        fault("1;g1;g2;", 0, 1);
        fault(" r1;g1;g2;", 0, 1);
        fault("rr1;", 1, 1);
        fault("r;g1;g2;", 1, 1);
        fault("r0;g1;g2;", 1, 2);
        fault("r00;g1;g2;", 1, 2);
        fault("r10;g1;g2;", 1, 2);
        fault("r99", 1, 2);
        fault("r001;g1;g2;", 1, 1);
        fault("r1000;g1;g2;", 1, 1);
        fault("r1,g1;g2;", 2, 1);
        fault("r1 ;g1;g2;", 2, 1);
        fault("r1;;", 3, 1);
        fault("r1;r1;", 3, 1);
        fault("r1;a1;g2;", 3, 1);
        fault("r1;G1;g2;", 3, 1);
        fault("r1;12;g2;", 3, 1);
        fault("r1;123;g2;", 3, 1);
        fault("r1;gg;g2;", 4, 1);
        fault("r1;g;g2;", 4, 1);
        fault("r1;g10;g2;", 4, 2);
        fault("r1;g99", 4, 2);
        fault("r1;g111;g2;", 4, 1);
        fault("r1;g1g2;", 5, 1);
        fault("r1;g1,g2;", 5, 1);
        fault("r1;g1;\u00e9", 6, 1);
        fault("r1;g1;s1;", 7, 2);
        fault("r1;g1;s01;", 7, 2);
        fault("r1;g1;g0;o0;s1;x", 13, 2);
        fault("r1;x1;g10;", 3, 1);
        fault("r0;x1;g10;", 1, 2);
    }

    private static void endings() {
        fault("", 0, 1);
        fault("r", 1, 1);
        fault("r1", 2, 1);
        fault("r1;", 3, 1);
        fault("r1;g", 4, 1);
        fault("r1;g1", 5, 1);
        fault("r1;g1;", 6, 1);
        fault("r1;g1;g", 7, 1);
        fault("r1;g1;g2", 8, 1);
        fault("r1;g1;g2;p", 10, 1);
        fault("r1;g1;g2;p03", 12, 1);
    }

    private static void room() {
        String seven = "r1;g1;s2;p3;h4;o5;g6;g7;";
        fault(seven + "g8;", 24, 3);
        fault(seven + "o", 24, 3);
        fault(seven + "x8;", 24, 1);
        fault(seven + "8;", 24, 1);
        fault(seven + ";", 24, 1);
        fault("r1;g1;s2;p3;h4;o5;g6;g07;h", 25, 3);
    }

    private static void staleBytes() {
        NicheSaints x = new NicheSaints();
        check.due("a run of figures", Check.read(x, "r1;g1;g222;"), -1000107);
        check.due("a shorter tape over it", Check.read(x, "r1;g1;g2"), -1000108);
        check.due("one that is whole", Check.read(x, "r1;g1;g2;"), 2);
        check.due("fault() of the latest", x.fault(), 1);
    }

    private static void inPlaceOfTheOneBefore() {
        NicheSaints x = Check.of("r3;g1;g2;g3;g4;g5;g6;g7;");
        x.steps(5);
        x.night(4);
        check.due("count(6)", x.count(6), 6);
        check.due("saints()", Check.read(x, "r2;h4;s0;"), 2);
        check.due("count(1)", x.count(1), 2);
        check.due("count(2)", x.count(2), 0);
        check.due("count(3)", x.count(3), 2);
        check.due("count(4)", x.count(4), 40);
        check.due("count(6)", x.count(6), 0);
        check.due("undo()", x.undo(), NicheSaints.STATE);
        check.due("holder(7)", x.holder(7), NicheSaints.NONE);
        check.due("saint(2, 0)", x.saint(2, 0), NicheSaints.BAD);
    }

    private static void allStays() {
        NicheSaints x = Check.of("r3;g1;g2;g3;");
        x.steps(2);
        check.due("a FAULT", Check.read(x, "r1;h5;h6;h7;h5;"), -1000113);
        check.due("fault()", x.fault(), 2);
        check.due("count(1)", x.count(1), 3);
        check.due("count(2)", x.count(2), 2);
        check.due("count(3)", x.count(3), 3);
        check.due("count(4)", x.count(4), 123);
        check.due("kind(0)", x.kind(0), 1);
        check.due("count(6)", x.count(6), 2);
        check.due("undo()", x.undo(), 1);
    }
}
