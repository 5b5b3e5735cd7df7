import java.util.Random;

/** Runs of drawn calls (always the same ones), each answer compared with that of the Model. */
public final class ModelTest {
    private static final int RUNS = 400, CALLS = 512;
    private static final String SORTS = "gspho";
    private static final Check check = new Check("ModelTest");

    private final Random random;
    private final int run;
    private final NicheSaints x = new NicheSaints();
    private final Model m = new Model();
    private int calls;

    private ModelTest(int run) {
        this.run = run;
        this.random = new Random(1000003L * run + 17);
    }

    public static void main(String[] args) {
        for (int run = 0; run < RUNS; run++) {
            new ModelTest(run).go();
        }
        check.end();
    }

    private void go() {
        if (random.nextInt(10) > 0) {
            text();
        }
        while (calls < CALLS) {
            int pick = random.nextInt(100);
            if (pick < 2) {
                text();
            } else if (pick < 20) {
                rows();
            } else if (pick < 45) {
                acts();
            } else if (pick < 85) {
                foretold();
            } else {
                asked();
            }
        }
    }

    private void same(String call, int got, int want) {
        calls++;
        check.due("run " + run + ", call " + calls + ", " + call, got, want);
    }

    private int any(int least, int most) {
        return least + random.nextInt(most - least + 1);
    }

    /** A number from least to most, rarely one beside them or far off. */
    private int near(int least, int most) {
        switch (random.nextInt(40)) {
            case 0:
                return least - 1;
            case 1:
                return most + 1;
            case 2:
                return random.nextBoolean() ? Integer.MAX_VALUE : Integer.MIN_VALUE;
            default:
                return any(least, most);
        }
    }

    private int saint() {
        return near(0, Math.max(0, m.count(1) - 1));
    }

    private void text() {
        StringBuilder text = new StringBuilder("r").append(any(1, 9)).append(';');
        int saints = any(2, 7);
        StringBuilder free = new StringBuilder("123456789");
        for (int i = 0; i < saints; i++) {
            int thing = 0;
            if (random.nextInt(4) > 0) {
                int at = random.nextInt(Math.min(free.length(), 7));
                thing = free.charAt(at) - '0';
                free.deleteCharAt(at);
            }
            text.append(SORTS.charAt(random.nextInt(5))).append(thing).append(';');
        }
        if (random.nextInt(4) == 0) {
            spoil(text);
        }
        for (int i = 0; i < text.length(); i++) {
            int letter = text.charAt(i);
            same("feed(" + letter + ")", x.feed(letter), m.feed(letter));
        }
        same("saints()", x.saints(), m.saints());
        same("fault()", x.fault(), m.fault());
    }

    private void spoil(StringBuilder text) {
        String signs = "rgsphox0123456789;;,, R\u00e9";
        for (int i = any(1, 2); i > 0; i--) {
            int at = random.nextInt(text.length() + 1);
            char sign = signs.charAt(random.nextInt(signs.length()));
            switch (random.nextInt(4)) {
                case 0:
                    text.insert(at, sign);
                    break;
                case 1:
                    text.setLength(Math.max(1, at));
                    break;
                case 2:
                    text.insert(at, "g0;g0;g0;");
                    break;
                default:
                    text.setCharAt(Math.min(at, text.length() - 1), sign);
                    break;
            }
        }
    }

    private void rows() {
        int row = near(0, 7);
        switch (random.nextInt(6)) {
            case 0:
                int lane = near(0, 2);
                int n = near(0, 40);
                same("row(" + row + ", " + lane + ", " + n + ")", x.row(row, lane, n), m.row(row, lane, n));
                break;
            case 1:
                int i = near(0, 39);
                int v = random.nextInt(3) == 0 ? random.nextInt() : any(-300, 300);
                same("set(" + row + ", " + i + ", " + v + ")", x.set(row, i, v), m.set(row, i, v));
                break;
            case 2:
                int other = random.nextInt(3) == 0 ? row : near(0, 7);
                int from = near(0, 20);
                int to = near(0, 20);
                int many = near(0, 20);
                same("copy(" + row + ", " + from + ", " + other + ", " + to + ", " + many + ")",
                        x.copy(row, from, other, to, many), m.copy(row, from, other, to, many));
                break;
            case 3:
                same("drop(" + row + ")", x.drop(row), m.drop(row));
                break;
            default:
                same("status()", x.status(), m.status());
                break;
        }
    }

    private void acts() {
        int saint = saint();
        int other = saint();
        switch (random.nextInt(8)) {
            case 0:
                int n = near(1, random.nextBoolean() ? 24 : 3);
                same("steps(" + n + ")", x.steps(n), m.steps(n));
                break;
            case 1:
                same("swap(" + saint + ", " + other + ")", x.swap(saint, other), m.swap(saint, other));
                break;
            case 2:
                int v = near(1, 9);
                same("night(" + v + ")", x.night(v), m.night(v));
                break;
            case 3:
            case 4:
                same("undo()", x.undo(), m.undo());
                break;
            case 5:
                int what = near(0, 1);
                same("saint(" + saint + ", " + what + ")", x.saint(saint, what), m.saint(saint, what));
                break;
            case 6:
                int thing = near(1, 9);
                same("holder(" + thing + ")", x.holder(thing), m.holder(thing));
                break;
            default:
                int k = near(0, 1);
                if (random.nextBoolean()) {
                    same("image(" + k + ")", x.image(k), m.image(k));
                } else if (random.nextBoolean()) {
                    same("restore(" + k + ")", x.restore(k), m.restore(k));
                }
                break;
        }
    }

    private void foretold() {
        int saint = saint();
        int thing = near(1, 9);
        switch (random.nextInt(10)) {
            case 0:
                int d = near(0, 60);
                same("ahead(" + saint + ", " + d + ")", x.ahead(saint, d), m.ahead(saint, d));
                break;
            case 1:
                same("when(" + saint + ", " + thing + ")", x.when(saint, thing), m.when(saint, thing));
                break;
            case 2:
                same("pray(" + thing + ")", x.pray(thing), m.pray(thing));
                break;
            case 3:
                same("round()", x.round(), m.round());
                break;
            case 4:
                int what = near(0, 2);
                same("home(" + what + ")", x.home(what), m.home(what));
                break;
            case 5:
                goals();
                break;
            case 6:
                int k = near(-1, 1);
                String call = "plan(" + saint + ", " + thing + ", " + k + ")";
                same(call, x.plan(saint, thing, k), m.plan(saint, thing, k));
                break;
            case 7:
                clues(saint);
                break;
            case 8:
                int told = near(0, 9);
                int c = near(0, 10);
                int part = near(0, 1);
                same("sleep(" + saint + ", " + told + ", " + c + ", " + part + ")",
                        x.sleep(saint, told, c, part), m.sleep(saint, told, c, part));
                break;
            default:
                int n = near(0, 60);
                int seed = near(1, 999999);
                int which = near(0, 1);
                same("drawn(" + n + ", " + seed + ", " + which + ")", x.drawn(n, seed, which), m.drawn(n, seed, which));
                break;
        }
    }

    private void put(int row, int i, int v) {
        same("set(" + row + ", " + i + ", " + v + ")", x.set(row, i, v), m.set(row, i, v));
    }

    /** Tells the THINGS in another order, rarely other ones. */
    private void goals() {
        int row = near(0, 7);
        int saints = m.count(1);
        int i = near(0, 3);
        if (random.nextInt(5) > 0) {
            int lane = any(0, 2);
            int many = random.nextInt(8) > 0 ? 10 : any(0, 9);
            same("row(" + row + ", " + lane + ", " + many + ")", x.row(row, lane, many), m.row(row, lane, many));
            int[] things = new int[saints];
            for (int s = 0; s < saints; s++) {
                int at = random.nextInt(s + 1);
                things[s] = things[at];
                things[at] = m.saint(s, 0);
            }
            if (saints > 0 && random.nextInt(8) == 0) {
                things[random.nextInt(saints)] = any(-1, 11);
            }
            for (int s = 0; s < saints; s++) {
                put(row, i + s, things[s]);
            }
        }
        int what = near(0, 1);
        same("swaps(" + row + ", " + i + ", " + what + ")", x.swaps(row, i, what), m.swaps(row, i, what));
        int k = near(-1, 12);
        same("sort(" + row + ", " + i + ", " + k + ")", x.sort(row, i, k), m.sort(row, i, k));
    }

    /** Tells what the SAINT will have, or would have after some change, or has by no means. */
    private void clues(int saint) {
        int row = near(0, 7);
        int i = near(0, 3);
        int n = near(1, random.nextBoolean() ? 3 : 12);
        if (random.nextInt(5) > 0) {
            int lane = any(0, 2);
            same("row(" + row + ", " + lane + ", 15)", x.row(row, lane, 15), m.row(row, lane, 15));
            boolean wrong = random.nextInt(4) == 0;
            for (int s = 1; s <= 12; s++) {
                int had = m.ahead(saint, s);
                if (had > 0 && i >= 0 && i < 10) {
                    put(row, i + s - 1, wrong && random.nextInt(4) == 0 ? any(0, 9) : had);
                }
            }
        }
        int what = near(0, 1);
        String rest = saint + ", " + row + ", " + i + ", " + n + ", " + what + ")";
        same("fits(" + rest, x.fits(saint, row, i, n, what), m.fits(saint, row, i, n, what));
        same("began(" + rest, x.began(saint, row, i, n, what), m.began(saint, row, i, n, what));
    }

    private void asked() {
        int saint = saint();
        switch (random.nextInt(5)) {
            case 0:
                same("kind(" + saint + ")", x.kind(saint), m.kind(saint));
                break;
            case 1:
                int kind = near(0, 5);
                same("as(" + saint + ", " + kind + ")", x.as(saint, kind), m.as(saint, kind));
                break;
            case 2:
                int what = near(0, 1);
                same("ask(" + saint + ", " + what + ")", x.ask(saint, what), m.ask(saint, what));
                break;
            case 3:
                int i = near(0, 6);
                same("trace(" + i + ")", x.trace(i), m.trace(i));
                break;
            default:
                int which = near(0, 7);
                same("count(" + which + ")", x.count(which), m.count(which));
                break;
        }
    }
}
