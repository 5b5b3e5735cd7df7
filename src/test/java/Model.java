import java.lang.reflect.Array;
import java.math.BigInteger;
import java.util.ArrayDeque;
import java.util.ArrayList;
import java.util.Arrays;
import java.util.Collections;
import java.util.Deque;
import java.util.HashMap;
import java.util.HashSet;
import java.util.List;
import java.util.Map;
import java.util.Set;
import java.util.TreeSet;
import java.util.regex.Matcher;
import java.util.regex.Pattern;

/**
 * The document once more, by other means (searches, sets, real arrays and classes), slow and plain:
 * what NicheSaints answers is compared with what this answers.
 */
final class Model {
    private static final int NONE = -1000000, BAD = -1000001, STATE = -1000002, FULL = -1000003;

    /** SAINTS at one time; never changed. */
    record Reredos(List<Integer> kinds, List<Integer> things, int step, int night) {
        int size() {
            return kinds.size();
        }

        Reredos withThings(List<Integer> other) {
            return new Reredos(kinds, other, step, night);
        }

        Reredos exchanged(int a, int b) {
            List<Integer> other = new ArrayList<>(things);
            Collections.swap(other, a, b);
            return withThings(other);
        }

        boolean lets(int i) {
            return kinds.get(i) <= 3 || things.get(i) == 0;
        }

        Reredos turned(int i) {
            int n = size();
            int next = (i + 1) % n;
            int last = (i + n - 1) % n;
            boolean onwards = switch (kinds.get(i)) {
                case 1 -> true;
                case 2 -> things.get(i) > things.get(next);
                case 3 -> step % 2 == 0;
                default -> false;
            };
            if (onwards && lets(next)) {
                return exchanged(i, next);
            }
            if (kinds.get(i) == 5 && things.get(i) == 0 && lets(last)) {
                return exchanged(i, last);
            }
            return this;
        }

        /** What is behind the last TURN: STEP counted, MATINS held. */
        Reredos ended() {
            Reredos r = new Reredos(kinds, things, step + 1, night);
            if (r.step % night != 0) {
                return r;
            }
            for (int i = 0; i < size(); i++) {
                int to = r.things.get(i) - 1;
                if (kinds.get(i) == 5 && to >= 0 && to < size() && to != i) {
                    r = r.exchanged(i, to);
                }
            }
            return r;
        }

        Reredos stepped() {
            Reredos r = this;
            for (int i = 0; i < size(); i++) {
                r = r.turned(i);
            }
            return r.ended();
        }

        Reredos atMatins() {
            Reredos r = stepped();
            while (r.step % night != 0) {
                r = r.stepped();
            }
            return r;
        }

        int figures() {
            StringBuilder text = new StringBuilder("0");
            things.forEach(text::append);
            return Integer.parseInt(text.toString());
        }
    }

    private interface Saint {
        List<Integer> trail();

        int number();

        int thing();

        int bare();

        default int size() {
            trail().add(10);
            return thing();
        }

        default int mark() {
            trail().add(20);
            return number();
        }
    }

    private static class Giver implements Saint {
        private final Model model;
        private final int number;

        Giver(Model model, int number) {
            this.model = model;
            this.number = number;
        }

        public List<Integer> trail() {
            return model.trail;
        }

        public int number() {
            return number;
        }

        public int thing() {
            return model.now.things().get(number);
        }

        public int bare() {
            return Collections.frequency(model.now.things(), 0);
        }

        public int size() {
            trail().add(11);
            return Saint.super.size() + mark();
        }

        public int mark() {
            trail().add(21);
            return Saint.super.mark() + bare();
        }
    }

    private static final class Shy extends Giver {
        Shy(Model model, int number) {
            super(model, number);
        }

        public int size() {
            trail().add(12);
            return 0 - super.size();
        }

        public int mark() {
            trail().add(24);
            return super.mark() * 2;
        }
    }

    private static final class Proud extends Giver {
        Proud(Model model, int number) {
            super(model, number);
        }

        public int mark() {
            trail().add(22);
            return super.mark() - 1000;
        }
    }

    private static class Hold implements Saint {
        private final Model model;
        private final int number;

        Hold(Model model, int number) {
            this.model = model;
            this.number = number;
        }

        public List<Integer> trail() {
            return model.trail;
        }

        public int number() {
            return number;
        }

        public int thing() {
            return model.now.things().get(number);
        }

        public int bare() {
            return Collections.frequency(model.now.things(), 0);
        }

        public int size() {
            trail().add(13);
            return Saint.super.size() - 100;
        }

        public int mark() {
            trail().add(23);
            return Saint.super.mark() - size();
        }
    }

    private static final class Hood extends Hold {
        Hood(Model model, int number) {
            super(model, number);
        }

        public int size() {
            trail().add(14);
            return super.size() * 2;
        }
    }

    private final Object[] rows = new Object[8];
    private final StringBuilder tape = new StringBuilder();
    private Reredos now = new Reredos(List.of(), List.of(), 0, 0);
    private final Deque<Reredos> acts = new ArrayDeque<>();
    private final Reredos[] images = new Reredos[2];
    private List<Integer> trail = new ArrayList<>();
    private int fault;
    private int status;

    private boolean nobody() {
        return now.size() == 0;
    }

    private boolean isSaint(int i) {
        return i >= 0 && i < now.size();
    }

    private static boolean in(int v, int least, int most) {
        return v >= least && v <= most;
    }

    private int found(int number) {
        status = number;
        return -1000010 - number;
    }

    private int fine(int answer) {
        status = 0;
        return answer;
    }

    int row(int row, int lane, int n) {
        if (!in(row, 0, 7) || !in(lane, 0, 2) || n > 40) {
            return BAD;
        }
        try {
            Class<?> type = lane == 0 ? byte.class : lane == 1 ? short.class : int.class;
            rows[row] = Array.newInstance(type, n);
            return fine(n);
        } catch (NegativeArraySizeException e) {
            return found(4);
        }
    }

    int set(int row, int i, int v) {
        if (!in(row, 0, 7)) {
            return BAD;
        }
        try {
            if (rows[row] instanceof byte[] bytes) {
                bytes[i] = (byte) v;
            } else if (rows[row] instanceof short[] shorts) {
                shorts[i] = (short) v;
            } else {
                ((int[]) rows[row])[i] = v;
            }
            return fine(Array.getInt(rows[row], i));
        } catch (NullPointerException e) {
            return found(1);
        } catch (ArrayIndexOutOfBoundsException e) {
            return found(2);
        }
    }

    int copy(int a, int i, int b, int j, int n) {
        if (!in(a, 0, 7) || !in(b, 0, 7)) {
            return BAD;
        }
        try {
            System.arraycopy(rows[a], i, rows[b], j, n);
            return fine(n);
        } catch (NullPointerException e) {
            return found(1);
        } catch (ArrayStoreException e) {
            return found(5);
        } catch (IndexOutOfBoundsException e) {
            return found(2);
        }
    }

    int drop(int row) {
        if (!in(row, 0, 7)) {
            return BAD;
        }
        if (rows[row] == null) {
            return found(1);
        }
        int had = Array.getLength(rows[row]);
        rows[row] = null;
        return fine(had);
    }

    int feed(int letter) {
        if (!in(letter, 0, 255)) {
            return BAD;
        }
        if (tape.length() >= 50) {
            return FULL;
        }
        tape.append((char) letter);
        return tape.length();
    }

    int saints() {
        String text = tape.toString();
        tape.setLength(0);
        List<String> tokens = new ArrayList<>();
        List<Integer> places = new ArrayList<>();
        Matcher matcher = Pattern.compile("[0-9]+|[\\x00-\\xff]").matcher(text);
        while (matcher.find()) {
            tokens.add(matcher.group());
            places.add(matcher.start());
        }
        List<Integer> kinds = new ArrayList<>();
        List<Integer> things = new ArrayList<>();
        int night = 0;
        for (int t = 0; t < tokens.size(); t++) {
            String token = tokens.get(t);
            String form = t == 0 ? "r" : t % 3 == 1 ? "[0-9]{1,2}" : t % 3 == 2 ? ";" : "[gspho]";
            int wrong = 0;
            if (!token.matches(form)) {
                wrong = 1;
            } else if (t == 1) {
                night = Integer.parseInt(token);
                wrong = in(night, 1, 9) ? 0 : 2;
            } else if (t % 3 == 0 && t > 0) {
                kinds.add("?gspho".indexOf(token));
                wrong = kinds.size() > 7 ? 3 : 0;
            } else if (t % 3 == 1) {
                int thing = Integer.parseInt(token);
                wrong = thing > 9 || thing > 0 && things.contains(thing) ? 2 : 0;
                things.add(thing);
            }
            if (wrong != 0) {
                fault = wrong;
                return -1000100 - places.get(t);
            }
        }
        if (tokens.size() < 9 || tokens.size() % 3 != 0) {
            fault = 1;
            return -1000100 - text.length();
        }
        now = new Reredos(kinds, things, 0, night);
        acts.clear();
        return now.size();
    }

    int fault() {
        return fault;
    }

    private void act(Reredos after) {
        acts.addLast(now);
        if (acts.size() > 24) {
            acts.removeFirst();
        }
        now = after;
    }

    int steps(int n) {
        if (nobody()) {
            return STATE;
        }
        if (!in(n, 1, 24)) {
            return BAD;
        }
        if (now.step() + n > 9999) {
            return FULL;
        }
        for (int i = 0; i < n; i++) {
            act(now.stepped());
        }
        return now.step();
    }

    int swap(int one, int other) {
        if (!isSaint(one) || !isSaint(other) || one == other) {
            return BAD;
        }
        act(now.exchanged(one, other));
        return now.things().get(one) * 10 + now.things().get(other);
    }

    int night(int v) {
        if (nobody()) {
            return STATE;
        }
        if (!in(v, 1, 9)) {
            return BAD;
        }
        int was = now.night();
        act(new Reredos(now.kinds(), now.things(), now.step(), v));
        return was;
    }

    int undo() {
        if (acts.isEmpty()) {
            return STATE;
        }
        now = acts.removeLast();
        return acts.size();
    }

    int saint(int saint, int what) {
        if (!isSaint(saint) || !in(what, 0, 1)) {
            return BAD;
        }
        return what == 0 ? now.things().get(saint) : now.lets(saint) ? 1 : 0;
    }

    private static int holderIn(Reredos r, int thing) {
        int at = r.things().indexOf(thing);
        return at < 0 ? NONE : at;
    }

    int holder(int thing) {
        return in(thing, 1, 9) ? holderIn(now, thing) : BAD;
    }

    int ahead(int saint, int d) {
        if (!isSaint(saint) || !in(d, 0, 60)) {
            return BAD;
        }
        Reredos r = now;
        for (int i = 0; i < d; i++) {
            r = r.stepped();
        }
        return r.things().get(saint);
    }

    int when(int saint, int thing) {
        if (!isSaint(saint) || !in(thing, 1, 9)) {
            return BAD;
        }
        for (int d = 0; d <= 60; d++) {
            if (ahead(saint, d) == thing) {
                return d;
            }
        }
        return NONE;
    }

    int pray(int thing) {
        if (nobody()) {
            return STATE;
        }
        return in(thing, 1, 9) ? holderIn(now.atMatins(), thing) : BAD;
    }

    int round() {
        if (nobody()) {
            return STATE;
        }
        Reredos r = now;
        for (int d = 1; d <= 200; d++) {
            r = r.stepped();
            if (r.things().equals(now.things())) {
                return d;
            }
        }
        return NONE;
    }

    /** All orders as figures with a 1 ahead, so that numbers are ordered as rows are. */
    private TreeSet<Integer> allOrders() {
        Set<List<Integer>> done = reached(now.things(), false).keySet();
        TreeSet<Integer> all = new TreeSet<>();
        done.forEach(things -> all.add(number(things)));
        return all;
    }

    private static int number(List<Integer> things) {
        int figures = 1;
        for (int thing : things) {
            figures = figures * 10 + thing;
        }
        return figures;
    }

    /** All rows of things that changes lead to, with the fewest changes: of neighbours, or of any two. */
    private static Map<List<Integer>, Integer> reached(List<Integer> from, boolean neighbours) {
        Map<List<Integer>, Integer> far = new HashMap<>();
        Deque<List<Integer>> open = new ArrayDeque<>();
        far.put(from, 0);
        open.add(from);
        while (!open.isEmpty()) {
            List<Integer> at = open.remove();
            for (int a = 0; a < at.size(); a++) {
                for (int b = a + 1; b < (neighbours ? Math.min(a + 2, at.size()) : at.size()); b++) {
                    List<Integer> other = new ArrayList<>(at);
                    Collections.swap(other, a, b);
                    if (far.putIfAbsent(other, far.get(at) + 1) == null) {
                        open.add(other);
                    }
                }
            }
        }
        return far;
    }

    int home(int what) {
        if (nobody()) {
            return STATE;
        }
        if (!in(what, 0, 2)) {
            return BAD;
        }
        if (what == 0) {
            int home = 0;
            for (int i = 0; i < now.size(); i++) {
                home += now.things().get(i) == i + 1 ? 1 : 0;
            }
            return home;
        }
        return what == 1 ? allOrders().headSet(number(now.things())).size() : allOrders().size();
    }

    /** The n ITEMS of a ROW from i on; null, with the FINDING in status, if they are not there. */
    private List<Integer> items(int row, int i, int n) {
        if (rows[row] == null) {
            status = 1;
            return null;
        }
        if (i < 0 || (long) i + n > Array.getLength(rows[row])) {
            status = 2;
            return null;
        }
        status = 0;
        List<Integer> items = new ArrayList<>();
        for (int k = i; k < i + n; k++) {
            items.add(Array.getInt(rows[row], k));
        }
        return items;
    }

    int swaps(int row, int i, int what) {
        if (nobody()) {
            return STATE;
        }
        if (!in(row, 0, 7) || !in(what, 0, 1)) {
            return BAD;
        }
        List<Integer> told = items(row, i, now.size());
        if (told == null) {
            return found(status);
        }
        Integer fewest = reached(now.things(), false).get(told);
        if (fewest == null) {
            return NONE;
        }
        return what == 0 ? fewest : parities(told);
    }

    /** Bits of the parities of changes that lead to what is told, by a search over rows and parities. */
    private int parities(List<Integer> told) {
        List<Set<List<Integer>>> seen = List.of(new HashSet<>(), new HashSet<>());
        Deque<List<Integer>> open = new ArrayDeque<>();
        Deque<Integer> parity = new ArrayDeque<>();
        open.add(now.things());
        parity.add(0);
        seen.get(0).add(now.things());
        while (!open.isEmpty()) {
            List<Integer> at = open.remove();
            int other = 1 - parity.remove();
            for (int a = 0; a + 1 < at.size(); a++) {
                List<Integer> next = new ArrayList<>(at);
                Collections.swap(next, a, a + 1);
                if (seen.get(other).add(next)) {
                    open.add(next);
                    parity.add(other);
                }
            }
        }
        return (seen.get(0).contains(told) ? 1 : 0) + (seen.get(1).contains(told) ? 2 : 0);
    }

    int sort(int row, int i, int k) {
        if (nobody()) {
            return STATE;
        }
        if (!in(row, 0, 7) || k < -1) {
            return BAD;
        }
        List<Integer> told = items(row, i, now.size());
        if (told == null) {
            return found(status);
        }
        Map<List<Integer>, Integer> far = reached(told, true);
        List<Integer> at = now.things();
        if (!far.containsKey(at)) {
            return NONE;
        }
        if (k == -1) {
            return far.get(at);
        }
        int last = NONE;
        for (int c = 0; c <= k; c++) {
            int a = 0;
            List<Integer> next = at;
            for (; a + 1 < at.size(); a++) {
                next = new ArrayList<>(at);
                Collections.swap(next, a, a + 1);
                if (far.get(next) < far.get(at)) {
                    break;
                }
            }
            if (a + 1 >= at.size()) {
                return NONE;
            }
            last = a;
            at = next;
        }
        return last;
    }

    int plan(int saint, int thing, int k) {
        if (!isSaint(saint) || !in(thing, 1, 9) || !in(k, -1, 1)) {
            return BAD;
        }
        for (int many = 0; many <= 2; many++) {
            TreeSet<Integer> plans = new TreeSet<>();
            gather(now, many, 1, saint, thing, plans);
            if (!plans.isEmpty()) {
                String first = plans.first().toString().substring(1);
                return k == -1 ? many : k >= many ? NONE : Integer.parseInt(first.substring(2 * k, 2 * k + 2));
            }
        }
        return NONE;
    }

    private void gather(Reredos from, int left, int plan, int saint, int thing, Set<Integer> plans) {
        if (left == 0) {
            if (from.atMatins().things().get(saint) == thing) {
                plans.add(plan);
            }
            return;
        }
        for (int b = from.size() - 1; b > 0; b--) {
            for (int a = b - 1; a >= 0; a--) {
                gather(from.exchanged(b, a), left - 1, plan * 100 + 10 * a + b, saint, thing, plans);
            }
        }
    }

    private static boolean shows(Reredos from, int saint, List<Integer> told) {
        List<Integer> had = new ArrayList<>();
        Reredos r = from;
        for (int i = 0; i < told.size(); i++) {
            r = r.stepped();
            had.add(r.things().get(saint));
        }
        return had.equals(told);
    }

    int fits(int saint, int row, int i, int n, int what) {
        if (!isSaint(saint) || !in(row, 0, 7) || !in(n, 1, 12) || !in(what, 0, 1)) {
            return BAD;
        }
        List<Integer> told = items(row, i, n);
        if (told == null) {
            return found(status);
        }
        int bits = 0;
        for (int v = 1; v <= (what == 0 ? 5 : 9); v++) {
            List<Integer> kinds = new ArrayList<>(now.kinds());
            if (what == 0) {
                kinds.set(saint, v);
            }
            Reredos other = new Reredos(kinds, now.things(), now.step(), what == 0 ? now.night() : v);
            bits += shows(other, saint, told) ? 1 << v : 0;
        }
        return bits;
    }

    int began(int saint, int row, int i, int n, int what) {
        if (!isSaint(saint) || !in(row, 0, 7) || !in(n, 1, 12) || !in(what, 0, 1)) {
            return BAD;
        }
        List<Integer> told = items(row, i, n);
        if (told == null) {
            return found(status);
        }
        int place = 0;
        int first = NONE;
        int many = 0;
        for (int order : allOrders()) {
            List<Integer> things = new ArrayList<>();
            for (char figure : Integer.toString(order).substring(1).toCharArray()) {
                things.add(figure - '0');
            }
            if (shows(now.withThings(things), saint, told)) {
                many++;
                first = first == NONE ? place : first;
            }
            place++;
        }
        return what == 0 ? many : first;
    }

    /** Turn by turn, what is likely to be: weights of 10 to the number of TURNS. */
    int sleep(int saint, int thing, int c, int what) {
        if (!isSaint(saint) || !in(thing, 0, 9) || !in(c, 0, 10) || !in(what, 0, 1)) {
            return BAD;
        }
        Map<Reredos, BigInteger> likely = new HashMap<>();
        likely.put(now, BigInteger.ONE);
        for (int i = 0; i < now.size(); i++) {
            Map<Reredos, BigInteger> next = new HashMap<>();
            for (Map.Entry<Reredos, BigInteger> e : likely.entrySet()) {
                next.merge(e.getKey(), e.getValue().multiply(BigInteger.valueOf(c)), BigInteger::add);
                next.merge(e.getKey().turned(i), e.getValue().multiply(BigInteger.valueOf(10 - c)), BigInteger::add);
            }
            likely = next;
        }
        BigInteger above = BigInteger.ZERO;
        for (Map.Entry<Reredos, BigInteger> e : likely.entrySet()) {
            if (e.getKey().ended().things().get(saint) == thing) {
                above = above.add(e.getValue());
            }
        }
        BigInteger below = BigInteger.TEN.pow(now.size());
        BigInteger shared = above.gcd(below);
        return (what == 0 ? above : below).divide(shared).intValueExact();
    }

    int drawn(int n, int seed, int what) {
        if (nobody()) {
            return STATE;
        }
        if (!in(n, 0, 60) || !in(seed, 1, 999999) || !in(what, 0, 1)) {
            return BAD;
        }
        BigInteger x = BigInteger.valueOf(seed);
        Reredos r = now;
        int often = 0;
        for (int i = 0; i < n; i++) {
            x = x.multiply(BigInteger.valueOf(16807)).mod(BigInteger.valueOf(2147483647));
            int one = x.mod(BigInteger.valueOf(r.size())).intValueExact();
            r = r.exchanged(one, (one + 1) % r.size()).stepped();
            boolean any = false;
            for (int s = 0; s < r.size(); s++) {
                any |= r.kinds().get(s) == 5 && r.things().get(s) > 0;
            }
            often += any ? 1 : 0;
        }
        return what == 0 ? r.figures() : often;
    }

    int image(int k) {
        if (!in(k, 0, 1)) {
            return BAD;
        }
        if (nobody()) {
            return STATE;
        }
        images[k] = now;
        return 1;
    }

    int restore(int k) {
        if (!in(k, 0, 1)) {
            return BAD;
        }
        if (images[k] == null) {
            return STATE;
        }
        now = images[k];
        acts.clear();
        return 1;
    }

    int kind(int saint) {
        return isSaint(saint) ? now.kinds().get(saint) : BAD;
    }

    private Saint body(int saint) {
        return switch (now.kinds().get(saint)) {
            case 1 -> new Giver(this, saint);
            case 2 -> new Shy(this, saint);
            case 3 -> new Proud(this, saint);
            case 4 -> new Hold(this, saint);
            default -> new Hood(this, saint);
        };
    }

    int as(int saint, int kind) {
        if (!isSaint(saint) || !in(kind, 0, 5)) {
            return BAD;
        }
        List<Class<?>> types = List.of(Saint.class, Giver.class, Shy.class, Proud.class, Hold.class, Hood.class);
        return types.get(kind).isInstance(body(saint)) ? fine(saint) : found(3);
    }

    int ask(int saint, int what) {
        if (!isSaint(saint) || !in(what, 0, 1)) {
            return BAD;
        }
        trail = new ArrayList<>();
        return what == 0 ? body(saint).size() : body(saint).mark();
    }

    int trace(int i) {
        return in(i, 0, Math.min(16, trail.size()) - 1) ? trail.get(i) : NONE;
    }

    int count(int what) {
        return switch (what) {
            case 0 -> (int) Arrays.stream(rows).filter(row -> row != null).count();
            case 1 -> now.size();
            case 2 -> now.step();
            case 3 -> now.night();
            case 4 -> now.figures();
            case 5 -> Collections.frequency(now.things(), 0);
            case 6 -> acts.size();
            case 7 -> tape.length();
            default -> BAD;
        };
    }

    int status() {
        return status;
    }
}
