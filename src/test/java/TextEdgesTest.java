/** The edges of THE TAPE, TEXTS and FAULTS (Terms, part 1; promises 6 to 8). */
public final class TextEdgesTest {
    private static final int LESS = -1000100;
    private static final Check check = new Check("TextEdgesTest");

    public static void main(String[] args) {
        bytes();
        fiftyBytes();
        empty();
        emptyThen();
        figures();
        otherBytes();
        nights();
        things();
        thingsTwice();
        fewestSaints();
        mostSaints();
        longestText();
        everyPrefix();
        leastOfOneToken();
        firstToken();
        latestFault();
        startsAnew();
        nothingLeft();
        check.end();
    }

    private static void read(String text, int saints) {
        NicheSaints x = new NicheSaints();
        check.due("saints() of " + text, Check.read(x, text), saints);
        check.due("fault() of " + text, x.fault(), 0);
        check.due("count(1) of " + text, x.count(1), saints);
        check.due("count(7) of " + text, x.count(7), 0);
    }

    private static void fault(String text, int number, int place) {
        NicheSaints x = new NicheSaints();
        check.due("saints() of " + text, Check.read(x, text), LESS - place);
        check.due("fault() of " + text, x.fault(), number);
        check.due("count(1) of " + text, x.count(1), 0);
        check.due("count(7) of " + text, x.count(7), 0);
    }

    private static void bytes() {
        check.of("Promise 6", "A byte (0 to 255) comes behind the tape: how many it has");
        NicheSaints x = new NicheSaints();
        check.due("feed(0)", x.feed(0), 1);
        check.due("feed(255)", x.feed(255), 2);
        for (int letter : Check.beside(0, 255)) {
            check.due("feed(" + letter + ")", x.feed(letter), NicheSaints.BAD);
        }
        check.due("feed('r' and 256)", x.feed('r' + 256), NicheSaints.BAD);
        check.due("count(7)", x.count(7), 2);
    }

    private static void fiftyBytes() {
        check.of("Terms 1", "THE TAPE has at most 50 bytes");
        NicheSaints x = new NicheSaints();
        String text = "r1;g1;g2;";
        Check.feed(x, text + "r".repeat(40));
        check.due("count(7)", x.count(7), 49);
        check.due("feed of the 50th", x.feed('r'), 50);
        check.due("feed of the 51st", x.feed('x'), NicheSaints.FULL);
        check.due("count(7)", x.count(7), 50);
        check.due("saints()", x.saints(), LESS - 9);
        check.due("feed on an empty tape", x.feed('r'), 1);
        fault("r".repeat(50), 1, 1);
        fault("1".repeat(50), 1, 0);
        fault("r" + "1".repeat(49), 1, 1);
        fault(text + "g" + "0".repeat(40), 1, 10);
    }

    private static void empty() {
        check.of("Terms 1", "the end: how many bytes there are");
        fault("", 1, 0);
        check.of("Promise 1", "No SAINTS");
        check.due("count(1)", new NicheSaints().count(1), 0);
    }

    private static void emptyThen() {
        check.of("Promise 7", "The tape, empty then, is read");
        NicheSaints x = new NicheSaints();
        check.due("saints()", Check.read(x, "r1;g1;g2;"), 2);
        check.due("count(7)", x.count(7), 0);
        check.due("saints() of nothing", x.saints(), LESS);
        check.due("a FAULT", Check.read(x, "r1;g1;g2"), LESS - 8);
        check.due("count(7)", x.count(7), 0);
        check.due("the rest alone is no text", Check.read(x, ";"), LESS);
        check.due("count(1): all stays", x.count(1), 2);
    }

    private static void figures() {
        check.of("Terms 1", "NUMBERS (figures, 2 at most) .. a run of three figures, at its first");
        read("r01;g1;g2;", 2);
        fault("r001;g1;g2;", 1, 1);
        fault("r0001;g1;g2;", 1, 1);
        read("r1;g01;g00;", 2);
        fault("r1;g001;g2;", 1, 4);
        fault("r1;g000;g2;", 1, 4);
        fault("r1;g1;g222", 1, 7);
        read("r1;g0;g09;", 2);
        NicheSaints x = Check.of("r09;g00;g09;");
        check.due("count(3) of r09;", x.count(3), 9);
        check.due("count(4) of g00;g09;", x.count(4), 9);
        fault("123r1;g1;g2;", 1, 0);
        fault("r1;123;", 1, 3);
        fault("r1;1", 1, 3);
    }

    /** Bytes beside 0 to 9, a to z and the SIGNS are no TOKENS; , is one, but stands nowhere. */
    private static void otherBytes() {
        check.of("Terms 1", "it cannot stand there, or is none");
        for (int letter = 0; letter <= 255; letter++) {
            char sign = (char) letter;
            if (sign != 'r') {
                fault(sign + "1;g1;g2;", 1, 0);
            }
            if (sign < '0' || sign > '9') {
                fault("r" + sign + ";g1;g2;", 1, 1);
                fault("r1;g" + sign + ";g2;", 1, 4);
            }
            if (sign != ';' && (sign < '0' || sign > '9')) {
                fault("r1" + sign + "g1;g2;", 1, 2);
                fault("r1;g1;g2" + sign, 1, 8);
            }
            if ("gspho".indexOf(sign) < 0) {
                fault("r1;g1;" + sign + "2;", 1, 6);
                fault("r1;g1;g2;" + sign, 1, 9);
            } else {
                read("r1;" + sign + "1;" + sign + "0;", 2);
            }
        }
        fault("r1;g1;g2;\0", 1, 9);
        fault("r 1;g1;g2;", 1, 1);
        fault("r1;g1;g2; ", 1, 9);
        fault("r1;g1;g2;\n", 1, 9);
    }

    private static void nights() {
        check.of("Terms 1", "law: r NIGHT ; (1 to 9)");
        for (int night = 1; night <= 9; night++) {
            check.due("count(3)", Check.of("r" + night + ";g1;g2;").count(3), night);
        }
        fault("r0;g1;g2;", 2, 1);
        fault("r00;g1;g2;", 2, 1);
        fault("r10;g1;g2;", 2, 1);
        fault("r99;g1;g2;", 2, 1);
    }

    private static void things() {
        check.of("Terms 1", "THING: 1 to 9, or 0: none");
        for (int thing = 0; thing <= 9; thing++) {
            check.due("saint(1, 0)", Check.of("r1;g0;h" + thing + ";").saint(1, 0), thing);
        }
        fault("r1;g0;g10;", 2, 7);
        fault("r1;g10;g0;", 2, 4);
        fault("r1;g0;g99;", 2, 7);
        fault("r1;g0;g10", 2, 7);
    }

    private static void thingsTwice() {
        check.of("Terms 1", "none but 0 told ahead already");
        read("r1;g0;g0;g0;g0;g0;g0;g0;", 7);
        for (int thing = 1; thing <= 9; thing++) {
            fault("r1;g" + thing + ";g" + thing + ";", 2, 7);
            fault("r1;g" + thing + ";g0;g0" + thing + ";", 2, 10);
        }
        fault("r1;g1;g2;g3;g4;g5;g6;g1;", 2, 22);
        fault("r1;g1;g2;g3;g4;g5;g6;g6;", 2, 22);
        read("r1;g1;g2;g3;g4;g5;g6;g9;", 7);
        read("r9;g9;g8;", 2);
        check.of("Terms 1", "told ahead (in this text, not in one before)");
        NicheSaints x = Check.of("r1;g1;g2;");
        check.due("the same THINGS anew", Check.read(x, "r1;g2;g1;"), 2);
        check.due("a FAULT", Check.read(x, "r1;g3;g4;g3;"), LESS - 10);
        check.due("THINGS of a text with a FAULT", Check.read(x, "r1;g3;g4;"), 2);
    }

    private static void fewestSaints() {
        check.of("Terms 1", "row: law saint saint { saint }");
        fault("r1;", 1, 3);
        fault("r1;g1;", 1, 6);
        read("r1;g1;g2;", 2);
        read("r1;g1;g2;g3;", 3);
        fault("r1;g1;g2;r1;", 1, 9);
        fault("r1;r1;g1;g2;", 1, 3);
    }

    private static void mostSaints() {
        check.of("Terms 1", "SAINTS 0 .. 6, 7 at most .. 3 a saint more than there is room for (its letter)");
        String six = "r1;g1;s2;p3;h4;o5;g6;";
        read(six, 6);
        read(six + "g7;", 7);
        for (char sort : "gspho".toCharArray()) {
            fault(six + "g7;" + sort + "8;", 3, 24);
            fault(six + "g7;" + sort, 3, 24);
            fault(six + "g0;" + sort + "1;", 3, 24);
        }
        fault(six + "g7;g8;g9;", 3, 24);
        NicheSaints x = Check.of(six + "o7;");
        check.due("kind(6)", x.kind(6), 5);
        check.due("kind(7)", x.kind(7), NicheSaints.BAD);
    }

    private static void longestText() {
        check.of("Terms 1", "at most 50 bytes (the longest text has 32)");
        String longest = "r09;g01;s02;p03;h04;o05;g06;g00;";
        read(longest, 7);
        fault(longest + ";", 1, 32);
        fault(longest + "g", 3, 32);
        fault(longest + "123", 1, 32);
        fault(longest + "g8;123456789012345", 3, 32);
    }

    private static void everyPrefix() {
        check.of("Terms 1", "the end: how many bytes there are");
        String text = "r09;g01;s2;p03;h4;";
        for (int n = 0; n < text.length(); n++) {
            String prefix = text.substring(0, n);
            if (n == 11 || n == 15) {
                read(prefix, n == 11 ? 2 : 3);
            } else if (n == 2) {
                fault(prefix, 2, 1);
            } else {
                fault(prefix, 1, n);
            }
        }
    }

    private static void leastOfOneToken() {
        check.of("Terms 1", "of one TOKEN the least");
        String seven = "r1;g1;s2;p3;h4;o5;g6;g7;";
        fault(seven + "r1;", 1, 24);
        fault(seven + "x8;", 1, 24);
        fault(seven + "8;", 1, 24);
        fault(seven + "888;", 1, 24);
        fault(seven + ",", 1, 24);
        fault("r999;g1;g2;", 1, 1);
        fault("r1;g1;g111;", 1, 7);
    }

    private static void firstToken() {
        check.of("Terms 1", "the first TOKEN that has one (its first byte)");
        fault("r0;x;g1;g1;", 2, 1);
        fault("r1;x1;g10;", 1, 3);
        fault("r1;g10;x", 2, 4);
        fault("r1;g1;g1;123", 2, 7);
        fault("r1;g1;g123;g1", 1, 7);
        fault("r1;g1g1;", 1, 5);
        fault("r10", 2, 1);
        fault("r1;g1;g2;g3;g4;g5;g6;g7;g7;x", 3, 24);
    }

    private static void latestFault() {
        check.of("Promise 8", "The number of the latest FAULT; 0 before one");
        NicheSaints x = new NicheSaints();
        check.due("fault()", x.fault(), 0);
        Check.read(x, "r1;g1;g2;");
        check.due("fault() behind a text without one", x.fault(), 0);
        x.feed('x');
        check.due("fault() ahead of reading", x.fault(), 0);
        x.saints();
        check.due("fault()", x.fault(), 1);
        Check.read(x, "r0;");
        check.due("fault()", x.fault(), 2);
        Check.read(x, "r1;g0;g0;g0;g0;g0;g0;g0;g0;");
        check.due("fault()", x.fault(), 3);
        Check.read(x, "r1;g1;g2;");
        check.due("fault() behind a text without one", x.fault(), 3);
        x.saints();
        check.due("fault() of an empty tape", x.fault(), 1);
    }

    private static void startsAnew() {
        check.of("Terms 1", "that is read stands in place of the one before: STEP 0; no ACT can be undone");
        NicheSaints x = Check.of("r3;g1;s2;p3;h4;o5;g6;g7;");
        x.steps(24);
        x.swap(0, 6);
        check.due("count(6)", x.count(6), 24);
        check.due("saints()", Check.read(x, "r2;o0;h3;"), 2);
        int[] counts = {0, 2, 0, 2, 3, 1, 0, 0};
        for (int what = 0; what <= 7; what++) {
            check.due("count(" + what + ")", x.count(what), counts[what]);
        }
        check.due("undo()", x.undo(), NicheSaints.STATE);
        check.due("kind(0)", x.kind(0), 5);
        check.due("kind(2)", x.kind(2), NicheSaints.BAD);
        check.due("saints(): more than before", Check.read(x, "r9;g1;g2;g3;"), 3);
        check.due("count(4)", x.count(4), 123);
    }

    /** Seven SAINTS in hoods with THINGS, and then two with none: nothing of the seven is seen any more. */
    private static void nothingLeft() {
        check.of("Terms 1", "in place of the one before (those that are no more, too)");
        NicheSaints x = Check.of("r1;o1;o9;o3;o4;o5;o6;o8;");
        check.due("saints()", Check.read(x, "r1;h0;h0;"), 2);
        for (int thing = 1; thing <= 9; thing++) {
            check.due("holder(" + thing + ")", x.holder(thing), NicheSaints.NONE);
            check.due("when(0, " + thing + ")", x.when(0, thing), NicheSaints.NONE);
            check.due("pray(" + thing + ")", x.pray(thing), NicheSaints.NONE);
            check.due("plan(0, " + thing + ", -1)", x.plan(0, thing, -1), NicheSaints.NONE);
        }
        check.due("count(5)", x.count(5), 2);
        check.due("home(0)", x.home(0), 0);
        check.due("home(2)", x.home(2), 1);
        check.due("round()", x.round(), 1);
        check.due("drawn(60, 1, 0)", x.drawn(60, 1, 0), 0);
        check.due("drawn(60, 1, 1)", x.drawn(60, 1, 1), 0);
        check.due("sleep(0, 0, 5, 0)", x.sleep(0, 0, 5, 0), 1);
        check.due("ask(0, 1): two have none", x.ask(0, 1), 100);
        check.due("steps(24)", x.steps(24), 24);
        check.due("count(4)", x.count(4), 0);
    }
}
