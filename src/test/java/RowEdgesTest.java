/** The edges of ROWS and ITEMS (Terms, part 1; promises 2 to 5). */
public final class RowEdgesTest {
    private static final int NULL = -1000011, PLACE = -1000012, SIZE = -1000014, STORE = -1000015;
    private static final Check check = new Check("RowEdgesTest");

    public static void main(String[] args) {
        eightRows();
        lanes();
        sizes();
        zeroAtFirst();
        inPlace();
        lowestBits();
        places();
        copiedWhole();
        copiedNothing();
        copiedOntoItself();
        copiedBeyond();
        copiedLanes();
        dropped();
        check.end();
    }

    private static void eightRows() {
        check.of("Terms 1", "ROWS 0 .. 7 are missing (at first)");
        NicheSaints x = new NicheSaints();
        for (int row = 0; row <= 7; row++) {
            check.due("set(" + row + ", 0, 1)", x.set(row, 0, 1), NULL);
            check.due("drop(" + row + ")", x.drop(row), NULL);
        }
        check.due("count(0)", x.count(0), 0);
        for (int row = 0; row <= 7; row++) {
            check.due("row(" + row + ", 2, " + (row + 1) + ")", x.row(row, 2, row + 1), row + 1);
            check.due("count(0)", x.count(0), row + 1);
        }
        check.of("Promise 2", "BAD: ROW");
        check.due("row(-1, 2, 1)", x.row(-1, 2, 1), NicheSaints.BAD);
        check.due("row(8, 2, 1)", x.row(8, 2, 1), NicheSaints.BAD);
        for (int row = 0; row <= 7; row++) {
            check.due("drop(" + row + ")", x.drop(row), row + 1);
        }
    }

    /** The LANE is seen by what is left of 123456789. */
    private static void lanes() {
        check.of("Terms 1", "a LANE (0 bytes, 1 shorts, 2 ints)");
        NicheSaints x = new NicheSaints();
        int[] left = {21, -13035, 123456789};
        for (int lane = 0; lane <= 2; lane++) {
            check.due("row(0, " + lane + ", 1)", x.row(0, lane, 1), 1);
            check.due("set(0, 0, 123456789)", x.set(0, 0, 123456789), left[lane]);
        }
        check.of("Promise 2", "BAD: LANE");
        check.due("row(0, -1, 1)", x.row(0, -1, 1), NicheSaints.BAD);
        check.due("row(0, 3, 1)", x.row(0, 3, 1), NicheSaints.BAD);
        check.due("set(0, 0, 123456789)", x.set(0, 0, 123456789), 123456789);
    }

    private static void sizes() {
        check.of("Terms 1", "0 to 40 ITEMS");
        NicheSaints x = new NicheSaints();
        for (int lane = 0; lane <= 2; lane++) {
            check.due("row(0, " + lane + ", 40)", x.row(0, lane, 40), 40);
            check.due("set(0, 39, 1)", x.set(0, 39, 1), 1);
            check.due("set(0, 40, 1)", x.set(0, 40, 1), PLACE);
            check.due("row(0, " + lane + ", 41)", x.row(0, lane, 41), NicheSaints.BAD);
            check.due("row(0, " + lane + ", MAX)", x.row(0, lane, Integer.MAX_VALUE), NicheSaints.BAD);
            check.due("drop(0)", x.drop(0), 40);
            check.due("row(0, " + lane + ", 0)", x.row(0, lane, 0), 0);
            check.due("set(0, 0, 1)", x.set(0, 0, 1), PLACE);
            check.due("count(0): an empty one is there", x.count(0), 1);
            check.of("Promise 2", "SIZE");
            check.due("row(0, " + lane + ", -1)", x.row(0, lane, -1), SIZE);
            check.due("status()", x.status(), 4);
            check.due("row(0, " + lane + ", MIN)", x.row(0, lane, Integer.MIN_VALUE), SIZE);
            check.due("drop(0)", x.drop(0), 0);
        }
    }

    /** SAINT 0 has none and holds on, so fits tells whether an ITEM is 0. */
    private static void allAreZero(NicheSaints x, int row, int size) {
        for (int i = 0; i < size; i++) {
            check.holds("ITEM " + i + " of " + size + " is 0", x.fits(0, row, i, 1, 0) != 0);
        }
    }

    private static void zeroAtFirst() {
        check.of("Terms 1", "ITEMS, 0 at first");
        NicheSaints x = Check.of("r9;h0;h1;");
        x.row(0, 2, 40);
        allAreZero(x, 0, 40);
        for (int i = 0; i < 40; i++) {
            x.set(0, i, i + 1);
        }
        check.due("fits: the last ITEM is 40", x.fits(0, 0, 39, 1, 0), 0);
        x.row(0, 2, 40);
        allAreZero(x, 0, 40);
        NicheSaints y = Check.of("r9;h0;h1;");
        y.row(0, 2, 40);
        for (int i = 0; i < 40; i++) {
            y.set(0, i, -1);
        }
        y.drop(0);
        y.row(0, 0, 3);
        allAreZero(y, 0, 3);
        y.row(0, 0, 40);
        allAreZero(y, 0, 40);
    }

    private static void inPlace() {
        check.of("Promise 2", "in place of what is there");
        NicheSaints x = new NicheSaints();
        x.row(5, 2, 9);
        x.row(6, 2, 9);
        check.due("row(5, 0, 2)", x.row(5, 0, 2), 2);
        check.due("count(0)", x.count(0), 2);
        check.due("set(5, 2, 0)", x.set(5, 2, 0), PLACE);
        check.due("set(5, 1, 300)", x.set(5, 1, 300), 44);
        check.due("copy(6, 0, 5, 0, 1)", x.copy(6, 0, 5, 0, 1), STORE);
        check.due("drop(6): the other stays", x.drop(6), 9);
        check.due("drop(5)", x.drop(5), 2);
    }

    private static void set(int lane, int v, int becomes) {
        NicheSaints x = new NicheSaints();
        x.row(0, lane, 1);
        check.due("set(0, 0, " + v + ") of LANE " + lane, x.set(0, 0, v), becomes);
    }

    private static void lowestBits() {
        check.of("Promise 3", "its lowest bits, as many as the LANE has: what it is then");
        int[][] bytes = {{127, 127}, {128, -128}, {255, -1}, {256, 0}, {-128, -128}, {-129, 127}, {-256, 0}, {-257, -1},
            {Integer.MAX_VALUE, -1}, {Integer.MIN_VALUE, 0}};
        int[][] shorts = {{32767, 32767}, {32768, -32768}, {65535, -1}, {65536, 0}, {-32768, -32768}, {-32769, 32767},
            {-65536, 0}, {-65537, -1}, {Integer.MAX_VALUE, -1}, {Integer.MIN_VALUE, 0}};
        for (int[] pair : bytes) {
            set(0, pair[0], pair[1]);
        }
        for (int[] pair : shorts) {
            set(1, pair[0], pair[1]);
        }
        for (int v : new int[] {Integer.MAX_VALUE, Integer.MIN_VALUE, -1, 0, 65536}) {
            set(2, v, v);
        }
        check.of("Promise 3", "ITEM i becomes v (that one alone)");
        NicheSaints x = Check.of("r9;h0;h1;");
        x.row(0, 1, 3);
        x.set(0, 1, 7);
        allAreZero(x, 0, 1);
        check.due("ITEM 1 is not 0", x.fits(0, 0, 1, 1, 0), 0);
        check.holds("ITEM 2 is 0", x.fits(0, 0, 2, 1, 0) != 0);
    }

    private static void places() {
        check.of("Promise 3", "PLACE");
        for (int size : new int[] {1, 2, 39, 40}) {
            NicheSaints x = new NicheSaints();
            x.row(7, 1, size);
            check.due("set(7, 0, 5) of " + size, x.set(7, 0, 5), 5);
            check.due("set(7, " + (size - 1) + ", 5) of " + size, x.set(7, size - 1, 5), 5);
            check.due("set(7, " + size + ", 5) of " + size, x.set(7, size, 5), PLACE);
            check.due("set(7, -1, 5) of " + size, x.set(7, -1, 5), PLACE);
            check.due("status()", x.status(), 2);
        }
    }

    /** A ROW of ITEMS 1 at these places, 0 elsewhere. */
    private static void ones(NicheSaints x, int row, int size, int... places) {
        x.row(row, 2, size);
        for (int place : places) {
            x.set(row, place, 1);
        }
    }

    /** SAINT 1 of h0;h1; holds 1. */
    private static void due(NicheSaints x, int row, String items) {
        StringBuilder got = new StringBuilder();
        for (int i = 0; i < items.length(); i++) {
            got.append(x.fits(1, row, i, 1, 1) != 0 ? '1' : x.fits(0, row, i, 1, 1) != 0 ? '0' : '?');
        }
        check.holds("ROW " + row + " is " + got + ", due is " + items, got.toString().equals(items));
    }

    private static void copiedWhole() {
        check.of("Promise 4", "n ITEMS of a from i on come to b from j on: n");
        NicheSaints x = Check.of("r9;h0;h1;");
        ones(x, 0, 40, 0, 1, 39);
        x.row(1, 2, 40);
        check.due("copy(0, 0, 1, 0, 40)", x.copy(0, 0, 1, 0, 40), 40);
        due(x, 1, "11" + "0".repeat(37) + "1");
        ones(x, 2, 5, 0, 4);
        check.due("copy(0, 39, 2, 0, 1): the last to the first", x.copy(0, 39, 2, 0, 1), 1);
        check.due("copy(0, 2, 2, 4, 1): to the last", x.copy(0, 2, 2, 4, 1), 1);
        due(x, 2, "10000");
        check.due("copy(0, 37, 2, 2, 3): to both ends", x.copy(0, 37, 2, 2, 3), 3);
        due(x, 2, "10001");
        check.due("status()", x.status(), 0);
    }

    private static void copiedNothing() {
        check.of("Promise 4", "n ITEMS (none)");
        NicheSaints x = Check.of("r9;h0;h1;");
        ones(x, 0, 3, 0, 2);
        ones(x, 1, 2, 1);
        x.row(2, 2, 0);
        check.due("copy(0, 0, 1, 0, 0)", x.copy(0, 0, 1, 0, 0), 0);
        check.due("copy(0, 3, 1, 2, 0): at the ends", x.copy(0, 3, 1, 2, 0), 0);
        check.due("copy(2, 0, 2, 0, 0): an empty ROW", x.copy(2, 0, 2, 0, 0), 0);
        due(x, 1, "01");
        check.of("Promise 4", "PLACE (beyond an end, though n is 0)");
        check.due("copy(0, 4, 1, 0, 0)", x.copy(0, 4, 1, 0, 0), PLACE);
        check.due("copy(0, 0, 1, 3, 0)", x.copy(0, 0, 1, 3, 0), PLACE);
        check.due("copy(2, 1, 0, 0, 0)", x.copy(2, 1, 0, 0, 0), PLACE);
        check.due("copy(0, -1, 1, 0, 0)", x.copy(0, -1, 1, 0, 0), PLACE);
        check.due("copy(0, 0, 1, -1, 0)", x.copy(0, 0, 1, -1, 0), PLACE);
    }

    private static void copiedOntoItself() {
        check.of("Promise 4", "as they were ahead");
        NicheSaints x = Check.of("r9;h0;h1;");
        ones(x, 0, 6, 0);
        check.due("copy(0, 0, 0, 1, 5): upwards", x.copy(0, 0, 0, 1, 5), 5);
        due(x, 0, "110000");
        check.due("copy(0, 1, 0, 0, 5): downwards", x.copy(0, 1, 0, 0, 5), 5);
        due(x, 0, "100000");
        ones(x, 1, 6, 5);
        check.due("copy(1, 1, 1, 0, 5): downwards", x.copy(1, 1, 1, 0, 5), 5);
        due(x, 1, "000011");
        check.due("copy(1, 0, 1, 0, 6): where it is", x.copy(1, 0, 1, 0, 6), 6);
        due(x, 1, "000011");
    }

    private static void copiedBeyond() {
        check.of("Promise 4", "PLACE (i, j, n below 0, or beyond an end)");
        NicheSaints x = new NicheSaints();
        x.row(0, 1, 4);
        x.row(1, 1, 6);
        int max = Integer.MAX_VALUE;
        int min = Integer.MIN_VALUE;
        int[][] wrong = {{0, 0, 5}, {1, 0, 4}, {4, 0, 1}, {5, 0, 0}, {-1, 0, 1}, {-1, 0, 2}, {0, -1, 1}, {0, -1, 2},
            {0, 0, -1}, {1, 1, -1}, {0, 3, 4}, {0, 6, 1}, {0, 7, 0}, {max, 0, 1}, {0, max, 1}, {0, 0, max}, {1, 0, max},
            {0, 1, max}, {max, max, max}, {min, 0, 1}, {0, min, 1}, {0, 0, min}, {min, min, min}, {min, 0, max},
            {0, min, max}, {max, 0, 0}, {0, max, 0}, {1, 1, min}};
        for (int[] w : wrong) {
            check.due("copy(0, " + w[0] + ", 1, " + w[1] + ", " + w[2] + ")", x.copy(0, w[0], 1, w[1], w[2]), PLACE);
            check.due("status()", x.status(), 2);
        }
        check.due("copy(1, 0, 0, 0, 5): beyond the end of b alone", x.copy(1, 0, 0, 0, 5), PLACE);
        check.due("copy(1, 2, 0, 0, 4)", x.copy(1, 2, 0, 0, 4), 4);
        check.due("copy(0, 0, 1, 2, 4)", x.copy(0, 0, 1, 2, 4), 4);
        check.due("status()", x.status(), 0);
    }

    private static void copiedLanes() {
        check.of("Promise 4", "STORE (ROWS of two LANES)");
        NicheSaints x = new NicheSaints();
        for (int lane = 0; lane <= 2; lane++) {
            x.row(lane, lane, 2);
            x.row(lane + 3, lane, 2);
        }
        for (int a = 0; a < 6; a++) {
            for (int b = 0; b < 6; b++) {
                boolean alike = a % 3 == b % 3;
                for (int n = 0; n <= 2; n++) {
                    String call = "copy(" + a + ", 0, " + b + ", 0, " + n + ")";
                    check.due(call, x.copy(a, 0, b, 0, n), alike ? n : STORE);
                    check.due("status()", x.status(), alike ? 0 : 5);
                }
            }
        }
    }

    private static void dropped() {
        check.of("Promise 5", "A ROW is missing from now on: how many ITEMS it had");
        NicheSaints x = Check.of("r9;h0;h1;");
        int[] sizes = {0, 1, 40};
        for (int size : sizes) {
            x.row(7, 0, size);
            check.due("count(0)", x.count(0), 1);
            check.due("drop(7)", x.drop(7), size);
            check.due("status()", x.status(), 0);
            check.due("count(0)", x.count(0), 0);
            check.due("drop(7) again", x.drop(7), NULL);
            check.due("set(7, 0, 0)", x.set(7, 0, 0), NULL);
            check.due("copy(7, 0, 7, 0, 0)", x.copy(7, 0, 7, 0, 0), NULL);
            check.due("swaps(7, 0, 0)", x.swaps(7, 0, 0), NULL);
            check.due("sort(7, 0, 0)", x.sort(7, 0, 0), NULL);
            check.due("fits(0, 7, 0, 1, 0)", x.fits(0, 7, 0, 1, 0), NULL);
            check.due("began(0, 7, 0, 1, 0)", x.began(0, 7, 0, 1, 0), NULL);
        }
    }
}
