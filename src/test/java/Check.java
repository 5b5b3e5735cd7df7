/** What the tests share: objects with a text read into them, and answers compared with those that are due. */
final class Check {
    private final String name;
    private int wrong;

    Check(String name) {
        this.name = name;
    }

    void due(String call, int got, int want) {
        if (got != want) {
            wrong++;
            System.out.println(name + ": " + call + " answered " + got + ", due is " + want);
        }
    }

    /** Ends the program with 1 if an answer was not as due. */
    void end() {
        System.out.println(name + ": " + (wrong == 0 ? "all answers are as due" : wrong + " answers are not as due"));
        if (wrong != 0) {
            System.exit(1);
        }
    }

    static int read(NicheSaints x, String text) {
        for (int i = 0; i < text.length(); i++) {
            x.feed(text.charAt(i));
        }
        return x.saints();
    }

    static NicheSaints of(String text) {
        NicheSaints x = new NicheSaints();
        int got = read(x, text);
        if (got < 2) {
            throw new IllegalStateException(text + " was not read: " + got);
        }
        return x;
    }

    /** Lays a ROW of ints with these ITEMS. */
    static void lay(NicheSaints x, int row, int... items) {
        x.row(row, 2, items.length);
        for (int i = 0; i < items.length; i++) {
            x.set(row, i, items[i]);
        }
    }
}
