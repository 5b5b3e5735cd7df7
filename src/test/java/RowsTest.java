/** Promises 2 to 5 (row, set, copy, drop) and what status tells of them. */
public final class RowsTest {
    private static final int NULL = -1000011, PLACE = -1000012, SIZE = -1000014, STORE = -1000015;
    private static final Check check = new Check("RowsTest");

    public static void main(String[] args) {
        laid();
        cut();
        setWrongly();
        copied();
        copiedWrongly();
        dropped();
        check.end();
    }

    private static void laid() {
        NicheSaints x = new NicheSaints();
        check.due("row(7, 2, 40)", x.row(7, 2, 40), 40);
        check.due("row(0, 0, 0)", x.row(0, 0, 0), 0);
        check.due("count(0)", x.count(0), 2);
        check.due("set(7, 39, 5)", x.set(7, 39, 5), 5);
        check.due("set(0, 0, 5)", x.set(0, 0, 5), PLACE);
        check.due("row(-1, 0, 1)", x.row(-1, 0, 1), NicheSaints.BAD);
        check.due("row(8, 0, 1)", x.row(8, 0, 1), NicheSaints.BAD);
        check.due("row(1, -1, 1)", x.row(1, -1, 1), NicheSaints.BAD);
        check.due("row(1, 3, 1)", x.row(1, 3, 1), NicheSaints.BAD);
        check.due("row(1, 0, 41)", x.row(1, 0, 41), NicheSaints.BAD);
        check.due("row(8, 0, -1)", x.row(8, 0, -1), NicheSaints.BAD);
        check.due("row(1, 3, -1)", x.row(1, 3, -1), NicheSaints.BAD);
        check.due("status() of the set before", x.status(), 2);
        check.due("row(7, 0, -1)", x.row(7, 0, -1), SIZE);
        check.due("status()", x.status(), 4);
        check.due("row(7, 0, MIN)", x.row(7, 0, Integer.MIN_VALUE), SIZE);
        check.due("set(7, 39, 6): the old ROW stays", x.set(7, 39, 6), 6);
        check.due("status()", x.status(), 0);
        check.due("count(0)", x.count(0), 2);
        check.due("row(7, 0, 3): in place of it", x.row(7, 0, 3), 3);
        check.due("set(7, 3, 1)", x.set(7, 3, 1), PLACE);
        check.due("drop(7)", x.drop(7), 3);
    }

    private static void cut() {
        NicheSaints x = new NicheSaints();
        x.row(0, 0, 2);
        x.row(1, 1, 2);
        x.row(2, 2, 2);
        check.due("byte 127", x.set(0, 0, 127), 127);
        check.due("byte 128", x.set(0, 0, 128), -128);
        check.due("byte 256", x.set(0, 0, 256), 0);
        check.due("byte -129", x.set(0, 0, -129), 127);
        check.due("short 32767", x.set(1, 1, 32767), 32767);
        check.due("short 32768", x.set(1, 1, 32768), -32768);
        check.due("short 65537", x.set(1, 1, 65537), 1);
        check.due("int MAX", x.set(2, 0, Integer.MAX_VALUE), Integer.MAX_VALUE);
        check.due("int MIN", x.set(2, 0, Integer.MIN_VALUE), Integer.MIN_VALUE);
    }

    private static void setWrongly() {
        NicheSaints x = new NicheSaints();
        check.due("status() at first", x.status(), 0);
        check.due("set(0, 0, 1)", x.set(0, 0, 1), NULL);
        check.due("status()", x.status(), 1);
        check.due("set(0, -1, 1): NULL is first", x.set(0, -1, 1), NULL);
        check.due("set(-1, 0, 1)", x.set(-1, 0, 1), NicheSaints.BAD);
        check.due("set(8, 0, 1)", x.set(8, 0, 1), NicheSaints.BAD);
        check.due("status()", x.status(), 1);
        x.row(0, 2, 3);
        check.due("status()", x.status(), 0);
        check.due("set(0, 3, 1)", x.set(0, 3, 1), PLACE);
        check.due("set(0, -1, 1)", x.set(0, -1, 1), PLACE);
        check.due("set(0, MAX, 1)", x.set(0, Integer.MAX_VALUE, 1), PLACE);
        check.due("set(0, MIN, 1)", x.set(0, Integer.MIN_VALUE, 1), PLACE);
        check.due("status()", x.status(), 2);
        check.due("set(0, 2, 1)", x.set(0, 2, 1), 1);
        check.due("status()", x.status(), 0);
    }

    /** ITEMS are seen by fits: SAINT 0 of two that hold has its THING 1 behind each STEP. */
    private static boolean isOne(NicheSaints x, int row, int i) {
        return x.fits(0, row, i, 1, 1) != 0;
    }

    private static void copied() {
        NicheSaints x = Check.of("r1;h1;h2;");
        Check.lay(x, 0, 1, 2, 1, 1, 2);
        check.due("copy upwards onto itself", x.copy(0, 0, 0, 1, 4), 4);
        boolean[] up = {true, true, false, true, true};
        for (int i = 0; i < up.length; i++) {
            check.due("item " + i, isOne(x, 0, i) ? 1 : 0, up[i] ? 1 : 0);
        }
        Check.lay(x, 1, 2, 1, 2, 2, 1);
        check.due("copy downwards onto itself", x.copy(1, 1, 1, 0, 4), 4);
        boolean[] down = {true, false, false, true, true};
        for (int i = 0; i < down.length; i++) {
            check.due("item " + i, isOne(x, 1, i) ? 1 : 0, down[i] ? 1 : 0);
        }
        x.row(2, 2, 2);
        check.due("copy to another", x.copy(1, 3, 2, 1, 1), 1);
        check.due("item 0 stays", isOne(x, 2, 0) ? 1 : 0, 0);
        check.due("item 1", isOne(x, 2, 1) ? 1 : 0, 1);
        check.due("none at the ends", x.copy(1, 5, 2, 2, 0), 0);
        x.row(2, 2, 2);
        check.due("a new ROW has 0", isOne(x, 2, 1) ? 1 : 0, 0);
    }

    private static void copiedWrongly() {
        NicheSaints x = new NicheSaints();
        x.row(0, 0, 4);
        x.row(1, 1, 4);
        x.row(2, 0, 2);
        check.due("copy(-1, ..)", x.copy(-1, 0, 0, 0, 1), NicheSaints.BAD);
        check.due("copy(.., 8, ..)", x.copy(0, 0, 8, 0, 1), NicheSaints.BAD);
        check.due("BAD is ahead of NULL", x.copy(3, 0, 8, 0, 1), NicheSaints.BAD);
        check.due("status()", x.status(), 0);
        check.due("from a missing one", x.copy(3, 0, 0, 0, 1), NULL);
        check.due("to a missing one", x.copy(0, 0, 3, 0, 1), NULL);
        check.due("NULL is ahead of PLACE", x.copy(0, -1, 3, 0, 1), NULL);
        check.due("status()", x.status(), 1);
        check.due("two LANES", x.copy(0, 0, 1, 0, 1), STORE);
        check.due("STORE is ahead of PLACE", x.copy(0, 0, 1, 0, 5), STORE);
        check.due("STORE though there is nothing to copy", x.copy(0, 0, 1, 0, 0), STORE);
        check.due("status()", x.status(), 5);
        check.due("i below 0", x.copy(0, -1, 2, 0, 1), PLACE);
        check.due("j below 0", x.copy(0, 0, 2, -1, 1), PLACE);
        check.due("n below 0", x.copy(0, 1, 2, 1, -1), PLACE);
        check.due("beyond the end of b", x.copy(0, 0, 2, 1, 2), PLACE);
        check.due("beyond the end of a", x.copy(2, 1, 0, 0, 2), PLACE);
        check.due("n wraps around", x.copy(0, 1, 2, 1, Integer.MAX_VALUE), PLACE);
        check.due("i wraps around", x.copy(0, Integer.MAX_VALUE, 2, 1, 1), PLACE);
        check.due("none beyond the end", x.copy(0, 5, 2, 0, 0), PLACE);
        check.due("status()", x.status(), 2);
        check.due("copy(0, 2, 2, 0, 2)", x.copy(0, 2, 2, 0, 2), 2);
        check.due("status()", x.status(), 0);
    }

    private static void dropped() {
        NicheSaints x = new NicheSaints();
        check.due("drop(8)", x.drop(8), NicheSaints.BAD);
        check.due("drop(-1)", x.drop(-1), NicheSaints.BAD);
        check.due("drop(0)", x.drop(0), NULL);
        check.due("status()", x.status(), 1);
        x.row(0, 1, 7);
        x.row(1, 1, 0);
        x.set(0, 7, 1);
        check.due("drop(0)", x.drop(0), 7);
        check.due("status()", x.status(), 0);
        check.due("drop(1)", x.drop(1), 0);
        check.due("drop(1) again", x.drop(1), NULL);
        check.due("set(0, 0, 1)", x.set(0, 0, 1), NULL);
        check.due("count(0)", x.count(0), 0);
    }
}
