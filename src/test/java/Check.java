/** What the tests share: objects with a text read into them, and answers compared with those that are due. */
final class Check {
    private final String name;
    private String sentence = "";
    private int wrong;

    Check(String name) {
        this.name = name;
    }

    /** The sentence of the document that the answers from here on are due to. */
    void of(String promise, String words) {
        sentence = promise + " \"" + words + "\": ";
    }

    void due(String call, int got, int want) {
        if (got != want) {
            wrong++;
            System.out.println(name + ": " + sentence + call + " answered " + got + ", due is " + want);
        }
    }

    void holds(String what, boolean does) {
        due(what, does ? 1 : 0, 1);
    }

    /** Ends the program with 1 if an answer was not as due. */
    void end() {
        System.out.println(name + ": " + (wrong == 0 ? "all answers are as due" : wrong + " answers are not as due"));
        if (wrong != 0) {
            System.exit(1);
        }
    }

    /** The numbers beside least .. most, and those farthest off, on both sides. */
    static int[] beside(int least, int most) {
        return new int[] {Integer.MIN_VALUE, least - 1, most + 1, Integer.MAX_VALUE};
    }

    static void feed(NicheSaints x, String text) {
        for (int i = 0; i < text.length(); i++) {
            x.feed(text.charAt(i));
        }
    }

    static int read(NicheSaints x, String text) {
        feed(x, text);
        return x.saints();
    }

    static NicheSaints of(String text) {
        NicheSaints x = new NicheSaints();
        int got = read(x, text);
        if (got < 2) {
            throw new IllegalStateException(text + " was not read: " + got);
        }
        return x;
    }

    /** Lays a ROW of ints with these ITEMS. */
    static void lay(NicheSaints x, int row, int... items) {
        x.row(row, 2, items.length);
        for (int i = 0; i < items.length; i++) {
            x.set(row, i, items[i]);
        }
    }
}
