/** The edges of clues (Terms, part 3; promises 23, 24), of sleep (25) and of draws (26). */
public final class ClueEdgesTest {
    private static final int NONE = NicheSaints.NONE, BAD = NicheSaints.BAD, PLACE = -1000012;
    private static final int ALL_KINDS = 2 + 4 + 8 + 16 + 32, ALL_NIGHTS = 1022;
    private static final Check check = new Check("ClueEdgesTest");

    public static void main(String[] args) {
        howManyClues();
        lastClue();
        fromNowOn();
        placesOfClues();
        kinds();
        nights();
        began();
        beganNowhere();
        sleepers();
        lowestTerms();
        likelyAtMatins();
        draws();
        seeds();
        hooded();
        check.end();
    }

    private static void howManyClues() {
        check.of("Terms 3", "behind each of n STEPS (1 to 12)");
        NicheSaints x = Check.of("r9;h1;h2;");
        x.row(0, 0, 40);
        for (int i = 0; i < 40; i++) {
            x.set(0, i, 1);
        }
        for (int n = 1; n <= 12; n++) {
            check.due("fits(0, 0, 0, " + n + ", 1)", x.fits(0, 0, 0, n, 1), ALL_NIGHTS);
            check.due("began(0, 0, 0, " + n + ", 0)", x.began(0, 0, 0, n, 0), 1);
        }
        for (int n : Check.beside(1, 12)) {
            for (int what = 0; what <= 1; what++) {
                check.due("fits(0, 0, 0, " + n + ", " + what + ")", x.fits(0, 0, 0, n, what), BAD);
                check.due("began(0, 0, 0, " + n + ", " + what + ")", x.began(0, 0, 0, n, what), BAD);
            }
        }
    }

    /** Eleven ITEMS are so, the twelfth is not. */
    private static void lastClue() {
        check.of("Terms 3", "behind each of n STEPS (the last one, too)");
        NicheSaints x = Check.of("r9;h1;h2;");
        x.row(0, 0, 12);
        for (int i = 0; i < 11; i++) {
            x.set(0, i, 1);
        }
        x.set(0, 11, 2);
        check.due("fits(0, 0, 0, 11, 1)", x.fits(0, 0, 0, 11, 1), ALL_NIGHTS);
        check.due("fits(0, 0, 0, 12, 1)", x.fits(0, 0, 0, 12, 1), 0);
        check.due("began(0, 0, 0, 11, 0)", x.began(0, 0, 0, 11, 0), 1);
        check.due("began(0, 0, 0, 12, 0)", x.began(0, 0, 0, 12, 0), 0);
        check.due("fits(0, 0, 11, 1, 1): the last alone", x.fits(0, 0, 11, 1, 1), 0);
        check.due("began(0, 0, 11, 1, 1): the last alone", x.began(0, 0, 11, 1, 1), 1);
    }

    /** What a SAINT has now is not told; the first ITEM is behind the next STEP, whatever STEP is. */
    private static void fromNowOn() {
        check.of("Terms 3", "from now on");
        NicheSaints x = Check.of("r9;p1;h0;");
        Check.lay(x, 0, 0, 1, 1, 0);
        check.due("fits(1, 0, 1, 2, 1): handed on in STEP 0", x.fits(1, 0, 1, 2, 1), ALL_NIGHTS);
        check.due("fits(1, 0, 0, 2, 1)", x.fits(1, 0, 0, 2, 1), 0);
        x.steps(1);
        x.swap(0, 1);
        check.due("fits(1, 0, 0, 3, 1): kept in STEP 1", x.fits(1, 0, 0, 3, 1), ALL_NIGHTS);
        check.due("began(1, 0, 0, 3, 0): were it so at STEP 1", x.began(1, 0, 0, 3, 0), 1);
        check.due("began(1, 0, 0, 3, 1): 1 0", x.began(1, 0, 0, 3, 1), 1);
    }

    private static void placesOfClues() {
        check.of("Promises 23, 24", "n ITEMS of a ROW from i on .. PLACE");
        NicheSaints x = Check.of("r9;h0;h2;");
        x.row(0, 1, 40);
        x.row(1, 1, 1);
        int[][] there = {{0, 1}, {0, 12}, {28, 12}, {39, 1}};
        int[][] beyond = {{29, 12}, {40, 1}, {39, 2}, {-1, 1}, {-1, 12}, {Integer.MAX_VALUE, 1},
            {Integer.MAX_VALUE, 12}, {Integer.MIN_VALUE, 1}, {Integer.MIN_VALUE, 12}};
        for (int[] p : there) {
            check.due("fits(0, 0, " + p[0] + ", " + p[1] + ", 1)", x.fits(0, 0, p[0], p[1], 1), ALL_NIGHTS);
            check.due("began(0, 0, " + p[0] + ", " + p[1] + ", 1)", x.began(0, 0, p[0], p[1], 1), 0);
            check.due("status()", x.status(), 0);
        }
        for (int[] p : beyond) {
            check.due("fits(0, 0, " + p[0] + ", " + p[1] + ", 1)", x.fits(0, 0, p[0], p[1], 1), PLACE);
            check.due("began(0, 0, " + p[0] + ", " + p[1] + ", 1)", x.began(0, 0, p[0], p[1], 1), PLACE);
            check.due("status()", x.status(), 2);
        }
        check.due("fits(0, 1, 0, 1, 1) of one ITEM", x.fits(0, 1, 0, 1, 1), ALL_NIGHTS);
        check.due("fits(0, 1, 0, 2, 1) of one ITEM", x.fits(0, 1, 0, 2, 1), PLACE);
        check.due("began(0, 1, 1, 1, 1) of one ITEM", x.began(0, 1, 1, 1, 1), PLACE);
    }

    private static void kinds() {
        check.of("Terms 3", "SORTS: KINDS (bits 1 to 5) of it by which it is so");
        NicheSaints x = Check.of("r9;h1;h2;");
        Check.lay(x, 0, 1, 2, -1, 257);
        check.due("fits: whatever it is", x.fits(0, 0, 0, 1, 0), ALL_KINDS);
        check.due("fits: by none", x.fits(0, 0, 1, 1, 0), 0);
        check.due("fits: no THING", x.fits(0, 0, 2, 1, 0), 0);
        check.due("fits: no THING", x.fits(0, 0, 3, 1, 0), 0);
        // SAINT 1 has none between two that let: each KIND but HOLD can be told by what it has then.
        NicheSaints y = Check.of("r9;g1;h0;g0;");
        Check.lay(y, 0, 0, 1);
        check.due("fits: it is handed 1, and hands it on", y.fits(1, 0, 0, 1, 0), 2 + 4 + 8);
        check.due("fits: it is handed 1, and has it", y.fits(1, 0, 1, 1, 0), 16 + 32);
        NicheSaints z = Check.of("r9;p1;g0;h2;");
        z.steps(1);
        z.swap(0, 1);
        Check.lay(z, 0, 1, 0);
        check.due("fits: one in a hood takes 1 from LAST", z.fits(1, 0, 0, 1, 0), 32);
        check.due("fits: none, by all others", z.fits(1, 0, 1, 1, 0), 2 + 4 + 8 + 16);
        check.due("kind(1) stays", z.kind(1), 1);
    }

    private static void nights() {
        check.of("Terms 3", "NIGHTS (1 to 9, bits)");
        NicheSaints x = Check.of("r5;o2;h5;");
        Check.lay(x, 0, 2, 2, 2, 2, 2, 2, 2, 2, 5, 5, 5, 2);
        check.due("fits: given back behind STEP 1", x.fits(0, 0, 8, 1, 1), 1 << 1);
        check.due("fits: not behind STEP 1", x.fits(0, 0, 0, 1, 1), ALL_NIGHTS - 2);
        check.due("fits: behind STEP 9", x.fits(0, 0, 0, 9, 1), 1 << 9);
        check.due("fits: behind STEP 9, and kept", x.fits(0, 0, 0, 11, 1), 1 << 9);
        check.due("fits: taken again by nothing", x.fits(0, 0, 0, 12, 1), 0);
        x.steps(4);
        check.due("fits from STEP 4: behind STEP 5", x.fits(0, 0, 8, 1, 1), 1 << 1 | 1 << 5);
        check.due("count(3) stays", x.count(3), 5);
    }

    private static void began() {
        check.of("Terms 3", "BEGAN: of all rows of the THINGS how many, were they so now; the place of the first");
        NicheSaints x = Check.of("r9;h3;h4;h5;h6;h7;h8;h9;");
        Check.lay(x, 0, 3, 9);
        check.due("began(0, 0, 0, 1, 0)", x.began(0, 0, 0, 1, 0), 720);
        check.due("began(0, 0, 0, 1, 1): the least row", x.began(0, 0, 0, 1, 1), 0);
        check.due("began(0, 0, 1, 1, 1): the first with 9 ahead", x.began(0, 0, 1, 1, 1), 4320);
        check.due("began(6, 0, 0, 1, 1): the first with 3 last", x.began(6, 0, 0, 1, 1), 873);
        check.due("began(6, 0, 1, 1, 1)", x.began(6, 0, 1, 1, 1), 0);
        check.of("Terms 3", "(as in ORDER)");
        NicheSaints all = Check.of("r9;g0;g0;g0;g0;g0;g0;g0;");
        Check.lay(all, 0, 0);
        check.due("began: the one row there is", all.began(3, 0, 0, 1, 0), 1);
        check.due("began: its place", all.began(3, 0, 0, 1, 1), 0);
        NicheSaints two = Check.of("r9;h2;h0;h0;");
        Check.lay(two, 0, 0, 2);
        check.due("began: 0 0 2, 0 2 0", two.began(0, 0, 0, 1, 0), 2);
        check.due("began: 2 0 0, the last place", two.began(0, 0, 1, 1, 1), 2);
        NicheSaints four = Check.of("r9;h1;h0;h2;h0;");
        Check.lay(four, 0, 0, 1, 2);
        // 0012 0021 0102 0120 0201 0210 1002 1020 1200 2001 2010 2100
        int[] many = {6, 3, 3};
        int[][] first = {{0, 6, 9}, {0, 2, 4}, {2, 0, 1}, {3, 1, 0}};
        for (int saint = 0; saint < 4; saint++) {
            for (int thing = 0; thing <= 2; thing++) {
                String rest = "of " + thing + " in SAINT " + saint;
                check.due("began: how many " + rest, four.began(saint, 0, thing, 1, 0), many[thing]);
                check.due("began: the first " + rest, four.began(saint, 0, thing, 1, 1), first[saint][thing]);
            }
        }
    }

    private static void beganNowhere() {
        check.of("Promise 24", "how many (what = 0), the place of the first (1; NONE)");
        NicheSaints x = Check.of("r9;h1;h2;");
        Check.lay(x, 0, 1, 2, 3, 0, -1);
        x.as(0, 3);
        int[][] nowhere = {{0, 2}, {2, 1}, {3, 1}, {4, 1}};
        for (int[] p : nowhere) {
            check.due("began(0, 0, " + p[0] + ", " + p[1] + ", 0)", x.began(0, 0, p[0], p[1], 0), 0);
            check.due("began(0, 0, " + p[0] + ", " + p[1] + ", 1)", x.began(0, 0, p[0], p[1], 1), NONE);
            check.due("status(): NONE is no FINDING", x.status(), 0);
        }
        for (int what : Check.beside(0, 1)) {
            check.due("began(0, 0, 0, 1, " + what + ")", x.began(0, 0, 0, 1, what), BAD);
            check.due("fits(0, 0, 0, 1, " + what + ")", x.fits(0, 0, 0, 1, what), BAD);
        }
    }

    private static void sleep(NicheSaints x, int saint, int thing, int c, int above, int below) {
        String rest = "(" + saint + ", " + thing + ", " + c + ", ";
        check.due("sleep" + rest + "0)", x.sleep(saint, thing, c, 0), above);
        check.due("sleep" + rest + "1)", x.sleep(saint, thing, c, 1), below);
    }

    /** Seven givers, the first with 1: it stays or comes round, or the last one takes none for it. */
    private static void sleepers() {
        check.of("Terms 3", "SLEEP: each SAINT does not have its TURN by c of 10, each by itself");
        NicheSaints x = Check.of("r9;g1;g0;g0;g0;g0;g0;g0;");
        sleep(x, 0, 1, 1, 4882969, 10000000);
        sleep(x, 0, 0, 1, 5117031, 10000000);
        sleep(x, 6, 1, 1, 1431441, 10000000);
        sleep(x, 1, 1, 1, 9, 100);
        check.of("Promise 25", "(c 0 to 10)");
        sleep(x, 0, 1, 0, 1, 1);
        sleep(x, 6, 1, 0, 0, 1);
        sleep(x, 0, 1, 10, 1, 1);
        sleep(x, 1, 0, 10, 1, 1);
        sleep(x, 1, 1, 10, 0, 1);
        check.of("Promise 25", "(THING 0 to 9)");
        NicheSaints y = Check.of("r9;h9;h0;");
        sleep(y, 0, 9, 5, 1, 1);
        sleep(y, 1, 0, 5, 1, 1);
        sleep(y, 1, 9, 5, 0, 1);
        sleep(y, 0, 0, 5, 0, 1);
        sleep(y, 0, 5, 5, 0, 1);
        check.due("sleep(0, -1, 5, 0)", y.sleep(0, -1, 5, 0), BAD);
        check.due("sleep(0, 10, 5, 0)", y.sleep(0, 10, 5, 0), BAD);
        check.due("sleep(0, 9, -1, 0)", y.sleep(0, 9, -1, 0), BAD);
        check.due("sleep(0, 9, 11, 0)", y.sleep(0, 9, 11, 0), BAD);
        check.due("sleep(0, 9, 5, -1)", y.sleep(0, 9, 5, -1), BAD);
        check.due("sleep(0, 9, 5, 2)", y.sleep(0, 9, 5, 2), BAD);
    }

    private static void lowestTerms() {
        check.of("Terms", "fractions, told as two numbers in lowest terms (0 is 0 by 1)");
        NicheSaints x = Check.of("r9;p1;h0;");
        int[][] kept = {{0, 1}, {1, 10}, {1, 5}, {3, 10}, {2, 5}, {1, 2}, {3, 5}, {7, 10}, {4, 5}, {9, 10}, {1, 1}};
        for (int c = 0; c <= 10; c++) {
            sleep(x, 0, 1, c, kept[c][0], kept[c][1]);
            sleep(x, 0, 0, c, kept[10 - c][0], kept[10 - c][1]);
            sleep(x, 0, 5, c, 0, 1);
        }
    }

    private static void likelyAtMatins() {
        check.of("Terms 3", "SLEEP: in the next STEP .. behind it (MATINS are behind a STEP, too)");
        NicheSaints x = Check.of("r1;h5;o1;");
        sleep(x, 0, 1, 10, 1, 1);
        NicheSaints y = Check.of("r1;o0;g2;");
        // Awake, the one in a hood takes 2 and gives it back; else the giver hands 2 to it, if awake.
        sleep(y, 1, 2, 3, 1, 1);
        NicheSaints z = Check.of("r2;o0;g2;");
        sleep(z, 0, 2, 3, 91, 100);
        z.steps(1);
        check.due("count(4)", z.count(4), 20);
        sleep(z, 1, 2, 3, 1, 1);
    }

    private static void draws() {
        check.of("Terms 3", "YEARS of n STEPS (0 to 60)");
        NicheSaints x = Check.of("r9;h1;h2;h3;");
        check.due("drawn(0, 1, 0)", x.drawn(0, 1, 0), 123);
        check.due("drawn(0, 1, 1)", x.drawn(0, 1, 1), 0);
        check.due("drawn(-1, 1, 0)", x.drawn(-1, 1, 0), BAD);
        check.due("drawn(61, 1, 0)", x.drawn(61, 1, 0), BAD);
        NicheSaints hood = Check.of("r9;o9;o8;");
        check.due("drawn(1, 1, 1)", hood.drawn(1, 1, 1), 1);
        check.due("drawn(59, 1, 1)", hood.drawn(59, 1, 1), 59);
        check.due("drawn(60, 1, 1)", hood.drawn(60, 1, 1), 60);
        check.of("Terms 3", "the SAINT that is the rest of X by how many there are changes with NEXT by hand");
        // By SEED 1 the rests by 3 are 1, 1, 2: the last one changes with SAINT 0.
        check.due("drawn(1, 1, 0)", x.drawn(1, 1, 0), 132);
        check.due("drawn(3, 1, 0)", x.drawn(3, 1, 0), 321);
        // Two SAINTS change with one another whichever is drawn.
        NicheSaints two = Check.of("r9;h1;h2;");
        for (int n = 0; n <= 60; n++) {
            check.due("drawn(" + n + ", 77, 0)", two.drawn(n, 77, 0), n % 2 == 0 ? 12 : 21);
        }
        check.of("Terms 3", "as figures, SAINT 0 first");
        check.due("drawn(0, 1, 0) of seven", Check.of("r9;h9;h8;h7;h6;h5;h4;h3;").drawn(0, 1, 0), 9876543);
        check.due("drawn(0, 1, 0): 0 ahead", Check.of("r9;h0;h0;h7;").drawn(0, 1, 0), 7);
    }

    private static void seeds() {
        check.of("Promise 26", "YEARS by a SEED (1 to 999999)");
        NicheSaints x = Check.of("r9;h1;h2;h3;");
        check.due("drawn(1, 1, 0): 16807", x.drawn(1, 1, 0), 132);
        check.due("drawn(1, 999999, 0): 1774597664", x.drawn(1, 999999, 0), 321);
        check.due("drawn(1, 0, 0)", x.drawn(1, 0, 0), BAD);
        check.due("drawn(1, 1000000, 0)", x.drawn(1, 1000000, 0), BAD);
        check.due("drawn(0, 0, 0): though none is drawn", x.drawn(0, 0, 0), BAD);
        check.due("drawn(1, 1, -1)", x.drawn(1, 1, -1), BAD);
        check.due("drawn(1, 1, 2)", x.drawn(1, 1, 2), BAD);
        check.due("drawn(3, 1, 0): X starts anew with each call", x.drawn(3, 1, 0), 321);
    }

    private static void hooded() {
        check.of("Terms 3", "behind how many of these STEPS anybody in a hood has a THING");
        check.due("nobody in a hood", Check.of("r9;g1;g2;").drawn(60, 3, 1), 0);
        check.due("nobody of seven", Check.of("r9;g1;g2;s3;s4;p5;p6;h7;").drawn(60, 3, 1), 0);
        check.due("hoods, but no THING", Check.of("r9;o0;o0;").drawn(60, 3, 1), 0);
        check.due("two at once count once", Check.of("r9;o1;o2;").drawn(60, 3, 1), 60);
        check.due("the last one alone", Check.of("r9;h1;o2;").drawn(60, 3, 1), 60);
        check.due("what it has now is behind no STEP", Check.of("r9;o1;h2;").drawn(0, 3, 1), 0);
    }
}
