/** The edges of the ring, STEP, NIGHT, MATINS and ACTS (Terms, part 2; promises 9 to 14), and of images (27, 28). */
public final class ActEdgesTest {
    private static final Check check = new Check("ActEdgesTest");

    public static void main(String[] args) {
        nextOfTheLast();
        lastOfTheFirst();
        lets();
        turnsInOrder();
        shy();
        proud();
        hooded();
        matinsWhen();
        matinsWhom();
        matinsInOrder();
        matinsByAnotherNight();
        howManySteps();
        lastStep();
        byHand();
        nights();
        keptActs();
        keptOfEachKind();
        actsGoRound();
        undoneMatins();
        tells();
        imageKept();
        imageReplaced();
        check.end();
    }

    /** What the SAINTS of a text have, as figures, behind each STEP. */
    private static void behind(String text, int... figures) {
        NicheSaints x = Check.of(text);
        for (int i = 0; i < figures.length; i++) {
            x.steps(1);
            check.due("count(4) of " + text + " behind STEP " + (i + 1), x.count(4), figures[i]);
        }
    }

    private static void nextOfTheLast() {
        check.of("Terms 2", "NEXT of a SAINT is the one of the next number (of the last one 0)");
        behind("r9;h0;h2;g3;", 320);
        behind("r9;h0;h2;s3;", 320);
        behind("r9;h0;h2;p3;", 320);
        behind("r9;h0;h1;h2;h3;h4;h5;g6;", 6123450);
        behind("r9;g5;h0;", 5);
        behind("r9;h0;g5;", 50);
        behind("r9;h1;g5;h0;", 105);
    }

    private static void lastOfTheFirst() {
        check.of("Terms 2", "LAST that of the number before (of 0 the last one)");
        behind("r9;o0;h2;g3;", 320);
        behind("r9;o0;h0;h1;h2;h3;h4;p5;", 5012340);
        behind("r9;o0;g5;", 50);
        behind("r9;h1;p5;o0;", 105);
        NicheSaints x = Check.of("r9;h1;p0;o0;p5;");
        x.steps(1);
        check.due("count(4): the one before has none", x.count(4), 1005);
    }

    private static void lets() {
        check.of("Terms 2", "each LETS only while it has none (it can be handed one then)");
        NicheSaints x = Check.of("r9;g1;s2;p3;h4;o5;h0;o0;");
        int[] lets = {1, 1, 1, 0, 0, 1, 1};
        for (int i = 0; i < 7; i++) {
            check.due("saint(" + i + ", 1)", x.saint(i, 1), lets[i]);
        }
        NicheSaints none = Check.of("r9;g0;s0;p0;h0;o0;");
        for (int i = 0; i < 5; i++) {
            check.due("saint(" + i + ", 1) of none", none.saint(i, 1), 1);
        }
        behind("r9;p1;h0;", 1);
        behind("r9;h3;p1;o0;", 301);
        behind("r9;p1;h2;", 12);
        behind("r9;p1;o2;", 12);
        check.of("Terms 2", "changes THINGS with NEXT (none for a THING, too)");
        behind("r9;g0;p2;h1;", 201);
        behind("r9;p0;s2;h1;", 201);
        behind("r9;p0;h2;", 2);
    }

    private static void turnsInOrder() {
        check.of("Terms 2", "SAINT by SAINT has its TURN");
        behind("r9;g1;g0;g0;h0;", 1);
        behind("r9;g1;g0;g0;g0;", 1000);
        behind("r9;g1;g2;g3;g4;g5;g6;g7;", 1345672);
    }

    private static void shy() {
        check.of("Terms 2", "a shy one likewise, but only if its THING is greater than that of NEXT");
        behind("r9;s2;p1;", 21);
        behind("r9;s1;h0;", 1);
        behind("r9;s9;s8;h7;", 897);
        behind("r9;s8;s9;h7;", 897);
        behind("r9;s0;s1;h0;", 1);
        behind("r9;s3;h1;", 31);
        behind("r9;h0;s0;", 0);
    }

    private static void proud() {
        check.of("Terms 2", "a proud one likewise, but only if STEP is even");
        NicheSaints x = Check.of("r9;p1;h0;");
        check.due("ahead(1, 1) at STEP 0", x.ahead(1, 1), 1);
        x.steps(1);
        x.swap(0, 1);
        check.due("ahead(1, 1) at STEP 1", x.ahead(1, 1), 0);
        check.due("ahead(1, 2) at STEP 1", x.ahead(1, 2), 1);
        x.steps(1);
        check.due("count(4) at STEP 2", x.count(4), 10);
        check.due("ahead(1, 1) at STEP 2", x.ahead(1, 1), 1);
    }

    private static void hooded() {
        check.of("Terms 2", "one in a hood changes with LAST, if it has none itself, and LAST LETS");
        behind("r9;h4;p0;o3;", 403);
        behind("r9;h4;o3;", 43);
        behind("r9;h4;o0;", 40);
        behind("r9;o4;o0;", 40);
        behind("r9;s4;o0;", 4);
        behind("r9;h0;o0;", 0);
        check.of("Terms 2", "one that holds does nothing");
        behind("r9;h1;h0;", 10);
        behind("r9;h0;h1;", 1);
    }

    /** One in a hood has 2 and gives it to SAINT 1 at MATINS, taking 5. */
    private static void matinsWhen() {
        check.of("Terms 2", "MATINS are behind each STEP with which STEP leaves 0 by NIGHT");
        for (int night = 1; night <= 9; night++) {
            NicheSaints x = Check.of("r" + night + ";o2;h5;");
            check.due("count(4) at STEP 0", x.count(4), 25);
            for (int step = 1; step <= 18; step++) {
                x.steps(1);
                check.due("count(4) of NIGHT " + night + " at STEP " + step, x.count(4), step < night ? 25 : 52);
            }
        }
        NicheSaints x = Check.of("r9;o2;h5;");
        x.steps(9);
        x.swap(0, 1);
        x.steps(8);
        check.due("count(4) at STEP 17", x.count(4), 25);
        x.steps(1);
        check.due("count(4) at STEP 18", x.count(4), 52);
    }

    private static void matinsWhom() {
        check.of("Terms 2", "changes it with the SAINT of the number THING less 1 (whatever that LETS)");
        behind("r1;h5;o1;", 15);
        behind("r1;h5;h6;h7;h8;h9;h4;o1;", 1678945);
        behind("r1;o7;h5;h6;h1;h8;h9;h4;", 4561897);
        behind("r1;o2;h0;", 2);
        behind("r1;o2;o9;", 92);
        check.of("Terms 2", "each in a hood that has a THING");
        behind("r1;h5;o0;", 50);
        behind("r1;h2;h1;", 21);
        check.of("Terms 2", "not if it is itself");
        behind("r1;o1;h5;", 15);
        behind("r1;h5;o2;", 52);
        behind("r1;h1;h2;h3;h4;h5;h6;o7;", 1234567);
        check.of("Terms 2", "or there is no such one");
        behind("r1;o3;h5;", 35);
        behind("r1;o9;h5;", 95);
        behind("r1;o8;h1;h2;h3;h4;h5;h6;", 8123456);
        behind("r1;o4;h1;h2;h3;", 3124);
        behind("r1;o4;h1;h2;", 412);
    }

    private static void matinsInOrder() {
        check.of("Terms 2", "then SAINT by SAINT, each in a hood");
        behind("r1;o3;o1;h2;", 123, 123);
        behind("r1;o2;o3;h1;", 321);
        behind("r1;o2;o1;h3;", 123);
    }

    private static void matinsByAnotherNight() {
        check.of("Terms 2", "NIGHT is another");
        NicheSaints x = Check.of("r9;o2;h5;");
        x.steps(4);
        x.night(4);
        check.due("count(4): no MATINS by the change itself", x.count(4), 25);
        x.steps(3);
        check.due("count(4) at STEP 7", x.count(4), 25);
        x.steps(1);
        check.due("count(4) at STEP 8", x.count(4), 52);
        NicheSaints y = Check.of("r3;o2;h5;");
        y.steps(2);
        y.night(9);
        y.steps(6);
        check.due("count(4) at STEP 8", y.count(4), 25);
        y.steps(1);
        check.due("count(4) at STEP 9", y.count(4), 52);
        NicheSaints z = Check.of("r9;o2;h5;");
        z.steps(1);
        z.night(1);
        z.steps(1);
        check.due("count(4): NIGHT 1", z.count(4), 52);
    }

    private static void howManySteps() {
        check.of("Promise 9", "n STEPS (1 to 24), an ACT each: STEP then");
        for (int n = 1; n <= 24; n++) {
            NicheSaints x = Check.of("r9;g1;g2;g3;");
            check.due("steps(" + n + ")", x.steps(n), n);
            check.due("count(2)", x.count(2), n);
            check.due("count(6)", x.count(6), n);
            check.due("count(4)", x.count(4), n % 2 == 0 ? 123 : 132);
        }
        NicheSaints x = Check.of("r9;g1;g2;g3;");
        check.due("steps(0)", x.steps(0), NicheSaints.BAD);
        check.due("steps(25)", x.steps(25), NicheSaints.BAD);
        check.due("count(2)", x.count(2), 0);
    }

    private static void lastStep() {
        check.of("Promise 9", "FULL: beyond STEP 9999");
        NicheSaints x = Check.of("r9;g1;g2;g3;");
        for (int i = 0; i < 416; i++) {
            x.steps(24);
        }
        check.due("steps(16)", x.steps(16), NicheSaints.FULL);
        check.due("count(2)", x.count(2), 9984);
        check.due("count(6)", x.count(6), 24);
        check.due("steps(14)", x.steps(14), 9998);
        check.due("steps(2)", x.steps(2), NicheSaints.FULL);
        check.due("steps(1)", x.steps(1), 9999);
        check.due("count(4)", x.count(4), 132);
        check.due("steps(1)", x.steps(1), NicheSaints.FULL);
        check.of("Promise 9", "FULL (STEPS alone)");
        check.due("swap(0, 1)", x.swap(0, 1), 31);
        check.due("night(1)", x.night(1), 9);
        check.of("Terms 3", "FORETOLD .. d STEPS on (beyond STEP 9999, too)");
        check.due("ahead(0, 0)", x.ahead(0, 0), 3);
        check.due("ahead(1, 1)", x.ahead(1, 1), 2);
        check.due("ahead(1, 60)", x.ahead(1, 60), 1);
        check.due("round()", x.round(), 2);
        check.due("pray(2)", x.pray(2), 1);
        check.due("drawn(60, 1, 1)", x.drawn(60, 1, 1), 0);
        check.due("undo()", x.undo(), 23);
        check.due("count(3)", x.count(3), 9);
        x.undo();
        x.undo();
        check.due("count(2)", x.count(2), 9998);
        check.of("Terms 1", "STEP 0 (of a text read at STEP 9999)");
        x.steps(1);
        Check.read(x, "r9;g1;g2;");
        check.due("steps(24)", x.steps(24), 24);
    }

    private static void byHand() {
        check.of("Promise 10", "Changed by hand: 10 times the THING of the one, and that of the other, then");
        NicheSaints x = Check.of("r1;h9;h8;o7;o0;g0;s1;p2;");
        check.due("swap(0, 1)", x.swap(0, 1), 89);
        check.due("swap(1, 0)", x.swap(1, 0), 89);
        check.due("swap(0, 6): the first and the last", x.swap(0, 6), 29);
        check.due("swap(6, 0)", x.swap(6, 0), 29);
        check.due("swap(3, 4): none for none", x.swap(3, 4), 0);
        check.due("swap(3, 2): whoever LETS", x.swap(3, 2), 70);
        check.due("swap(3, 2)", x.swap(3, 2), 7);
        check.due("count(4)", x.count(4), 9870012);
        check.due("count(6): an ACT each", x.count(6), 7);
        check.due("count(2): no STEP", x.count(2), 0);
        check.of("Promise 10", "BAD (alike, too)");
        for (int i = 0; i < 7; i++) {
            check.due("swap(" + i + ", " + i + ")", x.swap(i, i), NicheSaints.BAD);
        }
        check.due("swap(0, 7)", x.swap(0, 7), NicheSaints.BAD);
        check.due("swap(-1, 0)", x.swap(-1, 0), NicheSaints.BAD);
        check.due("swap(7, 7)", x.swap(7, 7), NicheSaints.BAD);
        check.due("count(6)", x.count(6), 7);
    }

    private static void nights() {
        check.of("Promise 11", "NIGHT is v (1 to 9): what it was");
        NicheSaints x = Check.of("r5;g1;g2;");
        int was = 5;
        for (int v = 1; v <= 9; v++) {
            check.due("night(" + v + ")", x.night(v), was);
            check.due("count(3)", x.count(3), v);
            was = v;
        }
        check.due("night(0)", x.night(0), NicheSaints.BAD);
        check.due("night(10)", x.night(10), NicheSaints.BAD);
        check.due("count(3)", x.count(3), 9);
        check.due("count(6)", x.count(6), 9);
    }

    private static void keptActs() {
        check.of("Terms 2", "24 at most are kept, of more the oldest is forgotten");
        NicheSaints x = Check.of("r9;h1;h2;h3;");
        for (int i = 1; i <= 23; i++) {
            x.swap(0, 1);
            check.due("count(6)", x.count(6), i);
        }
        x.swap(1, 2);
        check.due("count(6) of 24", x.count(6), 24);
        x.swap(1, 2);
        check.due("count(6) of 25", x.count(6), 24);
        x.swap(1, 2);
        check.due("count(6) of 26", x.count(6), 24);
        for (int left = 23; left >= 0; left--) {
            check.due("undo()", x.undo(), left);
        }
        check.due("count(4): two swaps can't be undone", x.count(4), 123);
        check.due("undo()", x.undo(), NicheSaints.STATE);
        check.due("swap(0, 1)", x.swap(0, 1), 21);
        check.due("count(6)", x.count(6), 1);
        check.of("Terms 2", "of more the oldest (of 24 none is)");
        NicheSaints y = Check.of("r9;h1;h2;h3;");
        y.swap(0, 2);
        y.steps(23);
        for (int left = 23; left >= 0; left--) {
            check.due("undo()", y.undo(), left);
        }
        check.due("count(4): as it was at first", y.count(4), 123);
        check.due("count(2)", y.count(2), 0);
        NicheSaints z = Check.of("r9;h1;h2;h3;");
        z.swap(0, 2);
        z.steps(24);
        for (int left = 23; left >= 0; left--) {
            check.due("undo()", z.undo(), left);
        }
        check.due("count(4): the swap was forgotten", z.count(4), 321);
        check.due("count(2)", z.count(2), 0);
    }

    private static void keptOfEachKind() {
        check.of("Promise 12", "The latest ACT is undone: how many can be undone yet");
        NicheSaints x = Check.of("r9;h1;h2;g3;h0;");
        x.steps(1);
        check.due("count(4)", x.count(4), 1203);
        x.night(2);
        x.swap(0, 1);
        x.night(2);
        check.due("count(6)", x.count(6), 4);
        check.due("undo()", x.undo(), 3);
        check.due("count(3)", x.count(3), 2);
        check.due("undo()", x.undo(), 2);
        check.due("count(4)", x.count(4), 1203);
        check.due("undo()", x.undo(), 1);
        check.due("count(3)", x.count(3), 9);
        check.due("count(2)", x.count(2), 1);
        check.due("undo()", x.undo(), 0);
        check.due("count(2)", x.count(2), 0);
        check.due("count(4)", x.count(4), 1230);
        check.due("undo()", x.undo(), NicheSaints.STATE);
        NicheSaints y = Check.of("r9;h1;h2;");
        for (int i = 0; i < 26; i++) {
            y.night(1 + i % 9);
        }
        for (int i = 0; i < 24; i++) {
            y.undo();
        }
        check.due("count(3): two were forgotten", y.count(3), 2);
    }

    /** More ACTS than are kept, undone in part and done anew, again and again. */
    private static void actsGoRound() {
        check.of("Terms 2", "each can be undone, the latest first");
        NicheSaints x = Check.of("r9;h1;h2;h3;h4;h5;h6;h7;");
        int[] figures = new int[400];
        int done = 0;
        int kept = 0;
        figures[0] = x.count(4);
        for (int turn = 0; turn < 9; turn++) {
            for (int i = 0; i < 11; i++) {
                x.swap(done % 7, (done + 1 + turn % 5) % 7);
                done++;
                kept = Math.min(24, kept + 1);
                figures[done] = x.count(4);
                check.due("count(6)", x.count(6), kept);
            }
            for (int i = 0; i < 4; i++) {
                done--;
                kept--;
                check.due("undo()", x.undo(), kept);
                check.due("count(4)", x.count(4), figures[done]);
            }
        }
        check.due("count(6)", x.count(6), 20);
        for (int left = 19; left >= 0; left--) {
            done--;
            check.due("undo()", x.undo(), left);
            check.due("count(4)", x.count(4), figures[done]);
        }
        check.due("undo()", x.undo(), NicheSaints.STATE);
        check.due("count(4)", x.count(4), figures[done]);
    }

    private static void undoneMatins() {
        check.of("Promise 12", "The latest ACT is undone (a STEP with its MATINS)");
        NicheSaints x = Check.of("r2;o2;h5;");
        x.steps(2);
        check.due("count(4)", x.count(4), 52);
        check.due("undo()", x.undo(), 1);
        check.due("count(4)", x.count(4), 25);
        check.due("count(2)", x.count(2), 1);
        check.due("steps(1)", x.steps(1), 2);
        check.due("count(4)", x.count(4), 52);
    }

    private static void tells() {
        check.of("Promise 13", "Of a SAINT: 0 the THING, 1 whether it LETS that go (1, 0)");
        NicheSaints x = Check.of("r9;h9;g0;s1;p2;o3;h0;o0;");
        int[][] told = {{9, 0}, {0, 1}, {1, 1}, {2, 1}, {3, 0}, {0, 1}, {0, 1}};
        for (int i = 0; i < 7; i++) {
            check.due("saint(" + i + ", 0)", x.saint(i, 0), told[i][0]);
            check.due("saint(" + i + ", 1)", x.saint(i, 1), told[i][1]);
        }
        check.of("Promise 14", "Who has a THING (1 to 9; NONE)");
        check.due("holder(1)", x.holder(1), 2);
        check.due("holder(9)", x.holder(9), 0);
        check.due("holder(4)", x.holder(4), NicheSaints.NONE);
        check.due("holder(0): none is no THING", x.holder(0), NicheSaints.BAD);
        check.due("holder(10)", x.holder(10), NicheSaints.BAD);
        check.due("holder(8) of the last SAINT", Check.of("r1;g0;g0;g0;g0;g0;g0;g8;").holder(8), 6);
    }

    private static void imageKept() {
        check.of("Promise 27", "An IMAGE (0, 1) is kept of all SAINTS: 1");
        for (int k = 0; k <= 1; k++) {
            NicheSaints x = Check.of("r3;g1;s2;p0;h4;o0;g6;g7;");
            x.steps(4);
            x.night(8);
            int figures = x.count(4);
            check.due("image(" + k + ")", x.image(k), 1);
            check.due("count(6) stays", x.count(6), 5);
            check.of("Promise 28", "STATE: none was kept");
            check.due("restore(" + (1 - k) + ")", x.restore(1 - k), NicheSaints.STATE);
            check.due("count(6) stays", x.count(6), 5);
            check.of("Promise 28", "SAINTS are as an IMAGE kept them (no ACT can be undone then): 1");
            Check.read(x, "r1;h1;h2;");
            x.steps(24);
            check.due("restore(" + k + ")", x.restore(k), 1);
            check.due("count(1)", x.count(1), 7);
            check.due("count(2)", x.count(2), 4);
            check.due("count(3)", x.count(3), 8);
            check.due("count(4)", x.count(4), figures);
            check.due("count(6)", x.count(6), 0);
            check.due("undo()", x.undo(), NicheSaints.STATE);
            check.due("kind(4)", x.kind(4), 5);
            check.due("steps(1): an ACT again", x.steps(1), 5);
            check.due("count(6)", x.count(6), 1);
        }
    }

    private static void imageReplaced() {
        check.of("Promise 27", "An IMAGE is kept (in place of the one before; what comes later does not change it)");
        NicheSaints x = Check.of("r3;h1;h2;h3;");
        x.image(1);
        x.swap(0, 1);
        x.restore(1);
        check.due("count(4)", x.count(4), 123);
        x.swap(0, 2);
        check.due("image(1)", x.image(1), 1);
        x.undo();
        check.due("count(4)", x.count(4), 123);
        check.due("restore(1)", x.restore(1), 1);
        check.due("count(4)", x.count(4), 321);
        x.swap(0, 1);
        x.steps(3);
        check.due("restore(1) once more", x.restore(1), 1);
        check.due("count(4)", x.count(4), 321);
        check.due("count(2)", x.count(2), 0);
        check.due("restore(0)", x.restore(0), NicheSaints.STATE);
    }
}
