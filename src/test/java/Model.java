import java.math.BigInteger;
import java.util.ArrayList;
import java.util.Arrays;
import java.util.Collections;
import java.util.Comparator;
import java.util.HashMap;
import java.util.LinkedHashMap;
import java.util.List;
import java.util.Map;
import java.util.NoSuchElementException;
import java.util.Set;
import java.util.TreeSet;
import java.util.regex.Matcher;
import java.util.regex.Pattern;

/** The document once more, in its plainest and slowest form, for ModelTest to compare the class with. */
final class Model {
    static final int NONE = -1;

    // ---- the text ----

    static final class Fault extends RuntimeException {
        final int kind;
        final int place;

        Fault(int kind, int place) {
            super(null, null, false, false);
            this.kind = kind;
            this.place = place;
        }
    }

    static final class Wrong extends RuntimeException {
        Wrong() {
            super(null, null, false, false);
        }
    }

    interface Expr {
        long eval(Map<String, Long> names);
    }

    static final class Thing {
        String name;
        int place;
        int size;
        int shape;
        int comes;
        int how;
    }

    static final class Book {
        final List<Thing> things = new ArrayList<>();
        final List<int[]> lamps = new ArrayList<>();
        final List<int[]> meetings = new ArrayList<>();
        final Map<String, Expr> laws = new HashMap<>();
        int rule = 0;
        int fog = 0;
        int seed = 0;
        int knots = 0;
        int lines = 0;

        int find(String name) {
            for (int i = 0; i < things.size(); i++) {
                if (things.get(i).name.equals(name)) {
                    return i;
                }
            }
            return NONE;
        }

        int size(int shadow) {
            return shadow == NONE ? 0 : things.get(shadow).size;
        }
    }

    static final Set<String> LANGUAGE = new TreeSet<>(Arrays.asList(("thing lamp meet rule fog seed law thief shy queue"
            + " stack fit late near price or and not size comes far own kind day which").split(" ")));
    static final List<String> NAMES = Arrays.asList("size", "comes", "far", "own", "kind", "day", "which");
    static final Pattern TOKEN = Pattern.compile("[a-z]+|[0-9]+|<=|<>|>=|[<>=+*/;()-]|[^ \n]", Pattern.DOTALL);

    static final class Parser {
        final List<String> tokens = new ArrayList<>();
        final List<Integer> places = new ArrayList<>();
        final int length;
        final Book book = new Book();
        final Set<String> once = new TreeSet<>();
        int at = 0;
        int open = 0;

        Parser(String text) {
            length = text.length();
            Matcher m = TOKEN.matcher(text);
            while (m.find()) {
                tokens.add(m.group());
                places.add(m.start());
            }
        }

        String peek() {
            return at < tokens.size() ? tokens.get(at) : "";
        }

        int place() {
            return at < tokens.size() ? places.get(at) : length;
        }

        Fault fault(int kind) {
            return new Fault(kind, place());
        }

        Book parse() {
            while (at < tokens.size()) {
                line();
                if (!peek().equals(";")) {
                    throw fault(1);
                }
                at++;
                book.lines++;
            }
            return book;
        }

        void line() {
            String word = peek();
            if (word.equals("thing")) {
                limit(book.things.size(), 5);
                Thing thing = new Thing();
                thing.name = word();
                if (book.find(thing.name) != NONE) {
                    throw fault(3);
                }
                at++;
                thing.place = number(0, 29);
                thing.size = number(1, 9);
                thing.shape = number(0, 511);
                thing.comes = number(0, 9);
                if (peek().equals("thief")) {
                    thing.how = 1;
                    at++;
                } else if (peek().equals("shy")) {
                    thing.how = 2;
                    at++;
                }
                book.things.add(thing);
            } else if (word.equals("lamp")) {
                limit(book.lamps.size(), 5);
                book.lamps.add(new int[] {number(0, 29), number(0, 29)});
            } else if (word.equals("meet")) {
                limit(book.meetings.size(), 10);
                int one = known(word());
                at++;
                int other = known(word());
                if (one == other) {
                    throw fault(5);
                }
                for (int[] m : book.meetings) {
                    if (Math.min(one, other) == Math.min(m[0], m[1]) && Math.max(one, other) == Math.max(m[0], m[1])) {
                        throw fault(3);
                    }
                }
                book.meetings.add(new int[] {one, other});
                at++;
            } else if (word.equals("rule")) {
                first(word);
                book.rule = Arrays.asList("queue", "stack", "fit").indexOf(peek());
                if (book.rule < 0) {
                    throw fault(1);
                }
                at++;
            } else if (word.equals("fog")) {
                first(word);
                book.fog = number(0, 100);
            } else if (word.equals("seed")) {
                first(word);
                book.seed = number(0, 99999);
            } else if (word.equals("law")) {
                at++;
                String kind = peek();
                if (!Arrays.asList("late", "near", "price").contains(kind)) {
                    throw fault(1);
                }
                first(kind);
                book.laws.put(kind, or());
            } else {
                throw fault(1);
            }
        }

        void limit(int size, int most) {
            if (size == most) {
                throw fault(2);
            }
            at++;
        }

        void first(String word) {
            if (!once.add(word)) {
                throw fault(3);
            }
            at++;
        }

        String word() {
            String word = peek();
            if (!word.matches("[a-z]{1,6}") || LANGUAGE.contains(word)) {
                throw fault(1);
            }
            return word;
        }

        int known(String name) {
            int thing = book.find(name);
            if (thing == NONE) {
                throw fault(4);
            }
            return thing;
        }

        int number(int least, int most) {
            if (!peek().matches("[0-9]+")) {
                throw fault(1);
            }
            BigInteger n = new BigInteger(peek());
            if (n.compareTo(BigInteger.valueOf(least)) < 0 || n.compareTo(BigInteger.valueOf(most)) > 0) {
                throw fault(2);
            }
            at++;
            return n.intValue();
        }

        void knot() {
            book.knots++;
            if (book.knots > 64) {
                throw fault(2);
            }
        }

        boolean is(String... signs) {
            return Arrays.asList(signs).contains(peek());
        }

        String sign() {
            knot();
            String sign = peek();
            at++;
            return sign;
        }

        Expr or() {
            Expr left = and();
            while (is("or")) {
                left = binary(sign(), left, and());
            }
            return left;
        }

        Expr and() {
            Expr left = not();
            while (is("and")) {
                left = binary(sign(), left, not());
            }
            return left;
        }

        Expr not() {
            if (is("not")) {
                sign();
                Expr inner = not();
                return names -> inner.eval(names) == 0 ? 1 : 0;
            }
            Expr left = sum();
            if (is("<", "<=", "=", "<>", ">=", ">")) {
                return binary(sign(), left, sum());
            }
            return left;
        }

        Expr sum() {
            Expr left = product();
            while (is("+", "-")) {
                left = binary(sign(), left, product());
            }
            return left;
        }

        Expr product() {
            Expr left = primary();
            while (is("*", "/")) {
                left = binary(sign(), left, primary());
            }
            return left;
        }

        Expr primary() {
            if (is("(")) {
                if (open == 8) {
                    throw fault(2);
                }
                open++;
                at++;
                Expr inner = or();
                if (!is(")")) {
                    throw fault(1);
                }
                open--;
                at++;
                return inner;
            }
            if (NAMES.contains(peek())) {
                String name = sign();
                return names -> names.get(name);
            }
            if (!peek().matches("[0-9]+")) {
                throw fault(1);
            }
            knot();
            long n = number(0, 9999);
            return names -> n;
        }

        static Expr binary(String sign, Expr left, Expr right) {
            return names -> {
                long a = left.eval(names);
                long b = right.eval(names);
                BigInteger value = value(sign, BigInteger.valueOf(a), BigInteger.valueOf(b));
                if (value.abs().compareTo(BigInteger.TEN.pow(12)) > 0) {
                    throw new Wrong();
                }
                return value.longValue();
            };
        }

        static BigInteger bit(boolean is) {
            return is ? BigInteger.ONE : BigInteger.ZERO;
        }

        static BigInteger value(String sign, BigInteger a, BigInteger b) {
            int order = a.compareTo(b);
            switch (sign) {
                case "or": return bit(a.signum() != 0 || b.signum() != 0);
                case "and": return bit(a.signum() != 0 && b.signum() != 0);
                case "<": return bit(order < 0);
                case "<=": return bit(order <= 0);
                case "=": return bit(order == 0);
                case "<>": return bit(order != 0);
                case ">=": return bit(order >= 0);
                case ">": return bit(order > 0);
                case "+": return a.add(b);
                case "-": return a.subtract(b);
                case "*": return a.multiply(b);
                default:
                    if (b.signum() == 0) {
                        throw new Wrong();
                    }
                    return a.divide(b);
            }
        }
    }

    // ---- the world ----

    /** All that a day looks at, so that anything can be tried otherwise on a copy. */
    static final class World {
        Book book;
        int[] has;
        int[] comes;
        int[] how;
        List<Integer> wall = new ArrayList<>();
        List<int[]> lamps = new ArrayList<>();
        List<Integer> order = new ArrayList<>();
        List<int[]> meetings = new ArrayList<>();
        int rule;
        int day;
        long number;

        World(Book book) {
            this.book = book;
            int n = book.things.size();
            has = new int[n];
            comes = new int[n];
            how = new int[n];
            for (int i = 0; i < n; i++) {
                has[i] = i;
                comes[i] = book.things.get(i).comes;
                how[i] = book.things.get(i).how;
            }
            for (int[] lamp : book.lamps) {
                order.add(lamps.size());
                lamps.add(lamp.clone());
            }
            meetings.addAll(book.meetings);
            rule = book.rule;
            number = book.seed;
        }

        World copy() {
            World w = new World(book);
            w.has = has.clone();
            w.comes = comes.clone();
            w.how = how.clone();
            w.wall = new ArrayList<>(wall);
            w.lamps = new ArrayList<>();
            for (int[] lamp : lamps) {
                w.lamps.add(lamp.clone());
            }
            w.order = new ArrayList<>(order);
            w.meetings = new ArrayList<>(meetings);
            w.rule = rule;
            w.day = day;
            w.number = number;
            return w;
        }

        int own() {
            int n = 0;
            for (int i = 0; i < has.length; i++) {
                n += has[i] == i ? 1 : 0;
            }
            return n;
        }

        int far(int thing, int lamp) {
            return Math.abs(book.things.get(thing).place - lamps.get(lamp)[0]);
        }

        /** null: an ERROR, or no such law. */
        Long law(String kind, int thing, int lamp) {
            Expr e = book.laws.get(kind);
            if (e == null) {
                return null;
            }
            boolean near = kind.equals("near");
            Map<String, Long> names = new HashMap<>();
            names.put("size", (long) (near ? book.size(thing) : book.size(has[thing])));
            names.put("comes", (long) comes[thing]);
            names.put("far", near ? far(thing, lamp) : 0L);
            names.put("own", has[thing] == thing ? 1L : 0L);
            names.put("kind", (long) how[thing]);
            names.put("day", (long) day);
            names.put("which", near ? lamp : 0L);
            try {
                return e.eval(names);
            } catch (Wrong w) {
                return null;
            }
        }

        long orElse(Long law, int without) {
            return law == null ? without : law;
        }

        int price(int thing) {
            Long e = law("price", thing, NONE);
            return e == null ? book.size(has[thing]) : (int) Math.min(999, Math.max(0, e));
        }

        void dusk() {
            List<long[]> comers = new ArrayList<>();
            for (int i = 0; i < has.length; i++) {
                if (has[i] != NONE) {
                    comers.add(new long[] {orElse(law("late", i, NONE), comes[i]), i});
                }
            }
            comers.sort(Comparator.<long[]>comparingLong(c -> c[0]).thenComparingLong(c -> c[1]));
            for (long[] c : comers) {
                wall.add(has[(int) c[1]]);
                has[(int) c[1]] = NONE;
            }
        }

        void lampGives(int lamp) {
            List<long[]> waiting = new ArrayList<>();
            for (int i = 0; i < has.length; i++) {
                if (has[i] == NONE && how[i] == 0 && far(i, lamp) <= lamps.get(lamp)[1]) {
                    waiting.add(new long[] {orElse(law("near", i, lamp), far(i, lamp)), i});
                }
            }
            waiting.sort(Comparator.<long[]>comparingLong(c -> c[0]).thenComparingLong(c -> c[1]));
            for (long[] w : waiting) {
                if (wall.isEmpty()) {
                    return;
                }
                int thing = (int) w[1];
                int k = rule == 0 ? 0 : wall.size() - 1;
                if (rule == 2) {
                    k = 0;
                    for (int i = 1; i < wall.size(); i++) {
                        if (misfit(thing, wall.get(i)) < misfit(thing, wall.get(k))) {
                            k = i;
                        }
                    }
                }
                has[thing] = wall.remove(k);
            }
        }

        int misfit(int thing, int shadow) {
            return Math.abs(book.size(thing) - book.size(shadow));
        }

        void day(boolean fog) {
            dusk();
            if (!fog) {
                for (int lamp : order) {
                    lampGives(lamp);
                }
                for (int i = 0; i < has.length; i++) {
                    if (how[i] == 1 && !wall.isEmpty()) {
                        Integer best = null;
                        for (Integer s : wall) {
                            if (best == null || book.size(s) > book.size(best)) {
                                best = s;
                            }
                        }
                        wall.remove(best);
                        has[i] = best;
                    }
                }
            }
            for (int[] m : meetings) {
                int before = own();
                swap(m[0], m[1]);
                if (own() <= before) {
                    swap(m[0], m[1]);
                }
            }
            day++;
        }

        void swap(int one, int other) {
            int had = has[one];
            has[one] = has[other];
            has[other] = had;
        }

        void dayByNumbers() {
            boolean fog = false;
            if (book.fog > 0) {
                number = (number * 1103515245L + 12345L) % (1L << 31);
                fog = number / 65536 % 100 < book.fog;
            }
            day(fog);
        }

        World after(int n) {
            World w = copy();
            for (int i = 0; i < n; i++) {
                w.day(false);
            }
            return w;
        }
    }

    static int lookOf(int shape) {
        int best = Integer.MAX_VALUE;
        for (int mirror = 0; mirror < 2; mirror++) {
            boolean[][] cells = new boolean[3][3];
            int top = 3;
            int left = 3;
            for (int i = 0; i < 9; i++) {
                int r = i / 3;
                int c = mirror == 1 ? 2 - i % 3 : i % 3;
                cells[r][c] = (shape >> 8 - i & 1) == 1;
                if (cells[r][c]) {
                    top = Math.min(top, r);
                    left = Math.min(left, c);
                }
            }
            int moved = 0;
            for (int r = 0; r < 3; r++) {
                for (int c = 0; c < 3; c++) {
                    if (cells[r][c]) {
                        moved += 1 << 8 - 3 * (r - top) - (c - left);
                    }
                }
            }
            best = Math.min(best, moved);
        }
        return best;
    }

    static void permutations(List<Integer> done, int n, List<List<Integer>> out) {
        if (done.size() == n) {
            out.add(new ArrayList<>(done));
            return;
        }
        for (int i = 0; i < n; i++) {
            if (!done.contains(i)) {
                done.add(i);
                permutations(done, n, out);
                done.remove(done.size() - 1);
            }
        }
    }

    // ---- the face ----

    private final List<Byte> tape = new ArrayList<>();
    private Book book = new Book();
    private World now = new World(book);
    private World image = null;
    private final List<World> past = new ArrayList<>();
    private final List<int[]> seen = new ArrayList<>();
    private int by = -1;
    private int faultKind = 0;
    private int faultPlace = NONE;

    public int feed(int a, int b, int c, int d, int e) {
        if (tape.size() + 20 > 700) {
            return NONE;
        }
        for (int n : new int[] {a, b, c, d, e}) {
            for (int i = 3; i >= 0; i--) {
                tape.add((byte) (n >>> 8 * i));
            }
        }
        return tape.size();
    }

    public int text(int n) {
        if (n < 0 || n > tape.size()) {
            return -2;
        }
        StringBuilder s = new StringBuilder();
        for (int i = 0; i < n; i++) {
            s.append((char) (tape.get(i) & 255));
        }
        tape.clear();
        try {
            book = new Parser(s.toString()).parse();
        } catch (Fault f) {
            faultKind = f.kind;
            faultPlace = f.place;
            return NONE;
        }
        faultKind = 0;
        faultPlace = NONE;
        now = new World(book);
        image = null;
        past.clear();
        seen.clear();
        by = -1;
        return book.lines;
    }

    public int fault(int what) {
        return what == 0 ? faultKind : what == 1 ? faultPlace : NONE;
    }

    public int named(int letters) {
        for (int i = 0; i < book.things.size(); i++) {
            String name = book.things.get(i).name;
            int code = 0;
            for (int k = 0; k < 6; k++) {
                code = code * 32 + (k < name.length() ? name.charAt(k) - 96 : 0);
            }
            if (code == letters) {
                return i;
            }
        }
        return NONE;
    }

    private boolean isThing(int i) {
        return i >= 0 && i < book.things.size();
    }

    private boolean isLamp(int i) {
        return i >= 0 && i < book.lamps.size();
    }

    private boolean two(int one, int other) {
        return isThing(one) && isThing(other) && one != other;
    }

    public int thing(int thing, int what) {
        if (!isThing(thing)) {
            throw new IndexOutOfBoundsException();
        }
        if (what < 0 || what > 5) {
            throw new NoSuchElementException();
        }
        Thing t = book.things.get(thing);
        return new int[] {t.place, now.has[thing], t.size, t.shape, t.comes, t.how}[what];
    }

    public int lamp(int lamp, int what) {
        if (!isLamp(lamp) || what < 0 || what > 2) {
            return NONE;
        }
        return what == 2 ? now.order.indexOf(lamp) : now.lamps.get(lamp)[what];
    }

    public int wall(int k) {
        return k < 0 ? NONE : k >= now.wall.size() ? -2 : now.wall.get(k);
    }

    public long law(int what, int thing, int lamp) {
        if (what < 0 || what > 2 || !isThing(thing) || what == 2 && !isLamp(lamp)) {
            return Long.MIN_VALUE;
        }
        Long e = now.law(new String[] {"late", "price", "near"}[what], thing, lamp);
        return e == null ? Long.MIN_VALUE : e;
    }

    private void remember() {
        past.add(now.copy());
        if (past.size() > 20) {
            past.remove(0);
        }
    }

    public boolean hang(int lamp, int place) {
        if (!isLamp(lamp) || place < 0 || place > 29 || now.lamps.get(lamp)[0] == place) {
            return false;
        }
        remember();
        now.lamps.get(lamp)[0] = place;
        return true;
    }

    public boolean turn(int one, int other) {
        if (!isLamp(one) || !isLamp(other) || one == other) {
            return false;
        }
        remember();
        Collections.swap(now.order, now.order.indexOf(one), now.order.indexOf(other));
        return true;
    }

    public boolean trade(int one, int other) {
        if (!two(one, other) || now.has[one] == NONE && now.has[other] == NONE) {
            return false;
        }
        remember();
        now.swap(one, other);
        return true;
    }

    public boolean meet(int one, int other, boolean is) {
        if (!two(one, other) || meets(one, other) == is) {
            return false;
        }
        remember();
        if (is) {
            now.meetings.add(new int[] {one, other});
        } else {
            now.meetings.removeIf(m -> m[0] == one && m[1] == other || m[0] == other && m[1] == one);
        }
        return true;
    }

    public boolean meets(int one, int other) {
        for (int[] m : now.meetings) {
            if (m[0] == one && m[1] == other || m[0] == other && m[1] == one) {
                return true;
            }
        }
        return false;
    }

    public int days(int n) {
        if (n < 0 || n > 50 || now.day + n > 999) {
            return NONE;
        }
        for (int i = 0; i < n; i++) {
            now.dayByNumbers();
            past.clear();
        }
        return now.day;
    }

    public int own() {
        return now.own();
    }

    private List<List<Integer>> orders() {
        List<List<Integer>> out = new ArrayList<>();
        permutations(new ArrayList<>(), book.lamps.size(), out);
        return out;
    }

    private World byOrder(List<Integer> order) {
        World w = now.copy();
        w.order = order;
        w.day(false);
        return w;
    }

    public int best(int what) {
        if (what < 0 || what > 5) {
            return NONE;
        }
        List<Integer> best = null;
        for (List<Integer> order : orders()) {
            if (best == null || byOrder(order).own() > byOrder(best).own()) {
                best = order;
            }
        }
        return what == 5 ? byOrder(best).own() : what < best.size() ? best.get(what) : -2;
    }

    public int gives(int thing, int shadow, int what) {
        if (!isThing(thing) || !isThing(shadow) || what < 0 || what > 4) {
            return NONE;
        }
        for (List<Integer> order : orders()) {
            if (byOrder(order).has[thing] == shadow) {
                return what < order.size() ? order.get(what) : -2;
            }
        }
        return -2;
    }

    public int hangs(int what) {
        if (what < 0 || what > 2) {
            return NONE;
        }
        int most = now.after(1).own();
        int[] best = null;
        for (int lamp = 0; lamp < book.lamps.size(); lamp++) {
            for (int place = 0; place < 30; place++) {
                World w = now.copy();
                w.lamps.get(lamp)[0] = place;
                w.day(false);
                if (w.own() > most) {
                    most = w.own();
                    best = new int[] {lamp, place, most};
                }
            }
        }
        return best == null ? -2 : best[what];
    }

    private static boolean settled(int[] has) {
        for (int i = 0; i < has.length; i++) {
            if (has[i] != NONE && has[i] != i) {
                return false;
            }
        }
        return true;
    }

    /** The fewest swaps, of several the first: layer by layer, every state with its least way; null: by none. */
    private List<Integer> way() {
        Map<List<Integer>, List<Integer>> done = new HashMap<>();
        Map<List<Integer>, List<Integer>> layer = new LinkedHashMap<>();
        List<Integer> start = new ArrayList<>();
        for (int h : now.has) {
            start.add(h);
        }
        layer.put(start, new ArrayList<>());
        while (!layer.isEmpty()) {
            List<Integer> best = null;
            for (Map.Entry<List<Integer>, List<Integer>> e : layer.entrySet()) {
                int[] has = e.getKey().stream().mapToInt(x -> x).toArray();
                if (settled(has) && (best == null || compare(e.getValue(), best) < 0)) {
                    best = e.getValue();
                }
            }
            if (best != null) {
                return best;
            }
            done.putAll(layer);
            Map<List<Integer>, List<Integer>> next = new LinkedHashMap<>();
            for (Map.Entry<List<Integer>, List<Integer>> e : layer.entrySet()) {
                for (int m = 0; m < now.meetings.size(); m++) {
                    List<Integer> state = new ArrayList<>(e.getKey());
                    Collections.swap(state, now.meetings.get(m)[0], now.meetings.get(m)[1]);
                    List<Integer> path = new ArrayList<>(e.getValue());
                    path.add(m);
                    if (!done.containsKey(state) && (!next.containsKey(state) || compare(path, next.get(state)) < 0)) {
                        next.put(state, path);
                    }
                }
            }
            layer = next;
        }
        return null;
    }

    private static int compare(List<Integer> a, List<Integer> b) {
        for (int i = 0; i < a.size(); i++) {
            if (!a.get(i).equals(b.get(i))) {
                return Integer.compare(a.get(i), b.get(i));
            }
        }
        return 0;
    }

    public int swaps() {
        List<Integer> way = way();
        return way == null ? -2 : way.size();
    }

    public int swap(int k) {
        if (k < 0) {
            return NONE;
        }
        List<Integer> way = way();
        if (way == null || k >= way.size()) {
            return -2;
        }
        int[] m = now.meetings.get(way.get(k)).clone();
        Arrays.sort(m);
        return m[0] * 10 + m[1];
    }

    public int look(int shadow) {
        return isThing(shadow) ? look(book, shadow) : NONE;
    }

    private static int look(Book book, int shadow) {
        return lookOf(book.things.get(shadow).shape);
    }

    public int alike(int shadow) {
        return isThing(shadow) ? whose(book.things.get(shadow).shape) : NONE;
    }

    public int sorts() {
        Set<Integer> looks = new TreeSet<>();
        for (int i = 0; i < book.things.size(); i++) {
            looks.add(look(book, i));
        }
        return looks.size();
    }

    public int whose(int shape) {
        if (shape < 0 || shape > 511) {
            return NONE;
        }
        int bits = 0;
        for (int i = 0; i < book.things.size(); i++) {
            bits += look(book, i) == lookOf(shape) ? 1 << i : 0;
        }
        return bits;
    }

    public int see(int days, int thing, int shape) {
        if (days < 1 || days > 20 || !isThing(thing) || shape < 0 || shape > 511 || seen.size() == 24) {
            return NONE;
        }
        seen.add(new int[] {days, thing, shape});
        return seen.size() - 1;
    }

    public int strike(int number) {
        if (number < 0 || number >= seen.size() || seen.size() == 24) {
            return NONE;
        }
        seen.add(new int[] {number});
        return seen.size() - 1;
    }

    public boolean known(int n) {
        if (n < -1 || n > seen.size()) {
            return false;
        }
        by = n;
        return true;
    }

    private boolean struck(int i, int n) {
        for (int j = i + 1; j < n; j++) {
            if (seen.get(j).length == 1 && seen.get(j)[0] == i && !struck(j, n)) {
                return true;
            }
        }
        return false;
    }

    public int rules() {
        int n = count(8);
        int bits = 0;
        for (int rule = 0; rule < 3; rule++) {
            boolean all = true;
            for (int i = 0; i < n; i++) {
                int[] s = seen.get(i);
                if (s.length == 3 && !struck(i, n)) {
                    World w = new World(book);
                    w.rule = rule;
                    int shadow = w.after(s[0]).has[s[1]];
                    all &= shadow != NONE && look(book, shadow) == lookOf(s[2]);
                }
            }
            bits += all ? 1 << rule : 0;
        }
        return bits;
    }

    private List<Integer> restList(int one, int other) {
        int[][][] gain = new int[5][5][2];
        for (int a = 0; a < 5; a++) {
            for (int b = 0; b < 5; b++) {
                World w = now.copy();
                w.comes[one] = a;
                w.comes[other] = b;
                w.day(false);
                gain[a][b] = new int[] {book.size(w.has[one]), book.size(w.has[other])};
            }
        }
        List<Integer> list = new ArrayList<>();
        for (int a = 0; a < 5; a++) {
            for (int b = 0; b < 5; b++) {
                boolean rest = true;
                for (int c = 0; c < 5; c++) {
                    rest &= gain[c][b][0] <= gain[a][b][0] && gain[a][c][1] <= gain[a][b][1];
                }
                if (rest) {
                    list.add(10 * a + b);
                }
            }
        }
        return list;
    }

    public int rests(int one, int other) {
        return two(one, other) ? restList(one, other).size() : NONE;
    }

    public int rest(int one, int other, int k) {
        if (!two(one, other) || k < 0) {
            return NONE;
        }
        List<Integer> list = restList(one, other);
        return k < list.size() ? list.get(k) : -2;
    }

    public int price(int thing) {
        return isThing(thing) ? now.price(thing) : NONE;
    }

    public int season(int thing, int n, int what) {
        if (!isThing(thing) || n < 1 || n > 20 || what < 0 || what > 1) {
            return NONE;
        }
        World best = now;
        for (int i = 1; i < n; i++) {
            World w = now.after(i);
            if (w.price(thing) > best.price(thing)) {
                best = w;
            }
        }
        return what == 0 ? best.day : best.price(thing);
    }

    private BigInteger ways(World w, int thing, int n) {
        if (n == 0) {
            return w.has[thing] == thing ? BigInteger.ONE : BigInteger.ZERO;
        }
        World foggy = w.copy();
        foggy.day(true);
        return ways(foggy, thing, n - 1).multiply(BigInteger.valueOf(book.fog))
                .add(ways(w.after(1), thing, n - 1).multiply(BigInteger.valueOf(100 - book.fog)));
    }

    public int whole(int thing, int n, int what) {
        if (!isThing(thing) || n < 1 || n > 4 || what < 0 || what > 1) {
            return NONE;
        }
        BigInteger above = ways(now, thing, n);
        BigInteger below = BigInteger.valueOf(100).pow(n);
        return (what == 0 ? above : below).divide(above.gcd(below)).intValue();
    }

    public int chance(int seed, int n, int bound) {
        if (seed < 0 || n < 1 || n > 20 || bound < 0 || bound > 5) {
            return NONE;
        }
        long number = seed;
        int times = 0;
        for (int i = 0; i < 10; i++) {
            World w = now.copy();
            w.number = number;
            for (int k = 0; k < n; k++) {
                w.dayByNumbers();
            }
            number = w.number;
            times += w.own() >= bound ? 1 : 0;
        }
        return times;
    }

    public int tried(int what, int i, int n) {
        if (what < 0 || what > 4 || n < 0 || n > 20 || what < 3 && i != 0 || what == 3 && !isThing(i) || what == 4 && !isLamp(i)) {
            return NONE;
        }
        World w = now.copy();
        if (what == 0) {
            w.meetings.clear();
        } else if (what == 1) {
            w.lamps.forEach(lamp -> lamp[1] = 29);
        } else if (what == 2) {
            w.how = Arrays.stream(w.how).map(how -> how == 2 ? 0 : how).toArray();
        } else if (what == 3) {
            w.how[i] = 1;
        } else {
            w.order.remove((Integer) i);
        }
        return w.after(n).own();
    }

    public int undo() {
        if (past.isEmpty()) {
            return NONE;
        }
        now = past.remove(past.size() - 1);
        return past.size();
    }

    public int keep() {
        image = now.copy();
        return now.day;
    }

    public int back() {
        if (image == null) {
            return NONE;
        }
        now = image.copy();
        past.clear();
        return now.day;
    }

    public int count(int what) {
        if (what < 0 || what > 9) {
            return NONE;
        }
        return new int[] {book.things.size(), book.lamps.size(), now.meetings.size(), book.rule, book.knots, now.day,
            now.wall.size(), seen.size(), by < 0 ? seen.size() : by, past.size()}[what];
    }
}
