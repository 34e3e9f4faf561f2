import java.lang.reflect.InvocationTargetException;
import java.lang.reflect.Method;
import java.lang.reflect.Modifier;
import java.nio.charset.StandardCharsets;
import java.util.ArrayList;
import java.util.Arrays;
import java.util.Comparator;
import java.util.List;
import java.util.Random;

/** Runs of drawn calls on drawn texts, answered by the class and by the plain model alike. */
public final class ModelTest {
    private static final int RUNS = 1000;
    private static final int CALLS = 500;
    private static final String[] NAMES = {"a", "b", "cat", "orb", "lantern", "z", "abcdef", "days", "lamp"};

    private final Random random;
    private final int run;
    private final ShadowPool pool = new ShadowPool();
    private final Model model = new Model();
    private final List<String> calls = new ArrayList<>();

    private ModelTest(int run) {
        this.run = run;
        this.random = new Random(run);
    }

    public static void main(String[] args) throws Exception {
        int runs = args.length > 0 ? Integer.parseInt(args[0]) : RUNS;
        int wrong = 0;
        for (int run = 0; run < runs && wrong < 5; run++) {
            wrong += new ModelTest(run).isRight() ? 0 : 1;
        }
        System.out.println(wrong == 0 ? runs + " runs answered as the model answers" : wrong + " runs went wrong");
        if (wrong != 0) {
            System.exit(1);
        }
    }

    private static Method[] face() {
        List<Method> face = new ArrayList<>();
        for (Method method : ShadowPool.class.getDeclaredMethods()) {
            if (Modifier.isPublic(method.getModifiers())) {
                face.add(method);
            }
        }
        face.sort(Comparator.comparing(Method::getName));
        return face.toArray(new Method[0]);
    }

    private static final Method[] FACE = face();

    private boolean isRight() throws Exception {
        int left = CALLS;
        while (left > 0) {
            String text = random.nextInt(3) == 0 ? spoilt(text()) : text();
            byte[] bytes = text.getBytes(StandardCharsets.ISO_8859_1);
            if (bytes.length <= 700) {
                for (int[] five : Texts.fives(bytes)) {
                    if (!agree("feed", five[0], five[1], five[2], five[3], five[4])) {
                        return false;
                    }
                }
                if (!agree("text", bytes.length) || !agree("fault", 0) || !agree("fault", 1)) {
                    return false;
                }
            }
            int some = 20 + random.nextInt(120);
            for (int i = 0; i < some; i++) {
                if (!agreeOnAny()) {
                    return false;
                }
            }
            left -= some + bytes.length / 20 + 4;
        }
        return true;
    }

    private boolean agreeOnAny() throws Exception {
        Method method = FACE[random.nextInt(FACE.length)];
        String name = method.getName();
        if (name.equals("feed") || name.equals("text")) {
            return random.nextInt(20) != 0 || agree(name, drawn(method));
        }
        if (name.equals("days") && random.nextInt(3) != 0) {
            return agree(name, random.nextInt(3));
        }
        return agree(name, drawn(method));
    }

    private Object[] drawn(Method method) {
        Object[] args = new Object[method.getParameterCount()];
        for (int i = 0; i < args.length; i++) {
            args[i] = method.getParameterTypes()[i] == boolean.class ? (Object) random.nextBoolean() : (Object) number(method.getName(), i);
        }
        return args;
    }

    private int number(String name, int i) {
        int how = random.nextInt(40);
        if (how == 0) {
            return random.nextInt();
        }
        if (how == 1) {
            return new int[] {Integer.MIN_VALUE, Integer.MAX_VALUE, -1, -2, 1000, 512, 511, 51, 50, 30, 29, 24, 20, 21}[random.nextInt(14)];
        }
        if (name.equals("chance") && i == 0) {
            return random.nextInt() & Integer.MAX_VALUE;
        }
        if ((name.equals("whose") && i == 0) || (name.equals("see") && i == 2)) {
            return random.nextInt(2) == 0 ? random.nextInt(512) : new int[] {0, 1, 3, 7, 16, 256}[random.nextInt(6)];
        }
        if (name.equals("count") || (name.equals("see") && i == 0 || name.equals("season") && i == 1 || name.equals("tried") && i == 2)) {
            return random.nextInt(22) - 1;
        }
        if (name.equals("hang") && i == 1) {
            return random.nextInt(32) - 1;
        }
        if (name.equals("strike") || name.equals("known")) {
            return random.nextInt(26) - 1;
        }
        if (name.equals("named")) {
            return 1 + random.nextInt(4) << 25;
        }
        return random.nextInt(8) == 0 ? random.nextInt(9) - 2 : random.nextInt(5);
    }

    private boolean agree(String name, Object... args) throws Exception {
        Method method = Arrays.stream(FACE).filter(m -> m.getName().equals(name)).findFirst().get();
        String got = answer(method, pool, args);
        String due = answer(Model.class.getMethod(name, method.getParameterTypes()), model, args);
        calls.add(name + Arrays.toString(args) + " -> " + got);
        if (got.equals(due)) {
            return true;
        }
        System.out.println("run " + run + ": the last of these is due to be " + due);
        calls.forEach(System.out::println);
        return false;
    }

    private static String answer(Method method, Object object, Object... args) throws Exception {
        try {
            return String.valueOf(method.invoke(object, args));
        } catch (InvocationTargetException e) {
            return "throws." + e.getCause().getClass().getSimpleName();
        }
    }

    // ---- texts ----

    private String text() {
        List<String> lines = new ArrayList<>();
        int things = random.nextInt(12) == 0 ? random.nextInt(3) : 2 + random.nextInt(4);
        int places = random.nextBoolean() ? 30 : 6;
        String[] hows = {"", "", "", "", " thief", " shy"};
        for (int i = 0; i < things; i++) {
            lines.add("thing " + (char) ('a' + i) + " " + random.nextInt(places) + " " + (1 + random.nextInt(random.nextBoolean() ? 9 : 3)) + " "
                    + (random.nextBoolean() ? random.nextInt(512) : 1 << random.nextInt(9)) + " " + random.nextInt(random.nextBoolean() ? 10 : 3)
                    + hows[random.nextInt(hows.length)]);
        }
        int lamps = random.nextInt(6);
        for (int i = 0; i < lamps; i++) {
            lines.add("lamp " + random.nextInt(places) + " " + random.nextInt(places));
        }
        int meetings = things < 2 ? 0 : random.nextInt(random.nextBoolean() ? 3 : 9);
        List<String> pairs = new ArrayList<>();
        for (int i = 0; i < meetings; i++) {
            int one = random.nextInt(things);
            int other = random.nextInt(things);
            String pair = Math.min(one, other) + " " + Math.max(one, other);
            if (one != other && !pairs.contains(pair)) {
                pairs.add(pair);
                lines.add("meet " + (char) ('a' + one) + " " + (char) ('a' + other));
            }
        }
        if (random.nextInt(4) != 0) {
            lines.add("rule " + new String[] {"queue", "stack", "fit"}[random.nextInt(3)]);
        }
        if (random.nextBoolean()) {
            lines.add("fog " + (random.nextInt(6) == 0 ? random.nextInt(2) * 100 : random.nextInt(101)));
        }
        if (random.nextBoolean()) {
            lines.add("seed " + random.nextInt(100000));
        }
        for (String kind : new String[] {"late", "near", "price"}) {
            if (random.nextBoolean()) {
                lines.add("law " + kind + " " + expression(random.nextInt(4)));
            }
        }
        String blank = random.nextInt(4) == 0 ? "\n" : "";
        StringBuilder text = new StringBuilder();
        for (String line : lines) {
            text.append(line).append(';').append(blank);
        }
        return text.toString();
    }

    private String expression(int depth) {
        if (depth == 0) {
            return random.nextInt(3) == 0 ? String.valueOf(random.nextInt(random.nextBoolean() ? 4 : 10000))
                    : new String[] {"size", "comes", "far", "own", "kind", "day", "which"}[random.nextInt(7)];
        }
        String inner = expression(depth - 1);
        switch (random.nextInt(8)) {
            case 0:
                return "not " + inner;
            case 1:
                return "(" + inner + ")";
            default:
                String[] signs = {"or", "and", "<", "<=", "=", "<>", ">=", ">", "+", "-", "*", "/", "+", "-", "*", "/", "*"};
                String sign = signs[random.nextInt(signs.length)];
                String other = expression(random.nextInt(depth));
                return random.nextInt(3) == 0 ? inner + " " + sign + " " + other : "(" + inner + ") " + sign + " (" + other + ")";
        }
    }

    private String spoilt(String text) {
        StringBuilder s = new StringBuilder(text);
        int times = 1 + random.nextInt(3);
        for (int i = 0; i < times; i++) {
            int at = random.nextInt(s.length() + 1);
            String[] bits = {";", " ", "(", ")", "<", "=", ">", "<>", "not ", " and ", "0", "9", "99999", "a", "thing ", "lamp 1 1;", "\t", "A",
                "\u00e9", "thing abcdefg ", "meet a b;", "rule fit;", "fog 5;", "seed 7;", "law late 1;", " thief", "((((", "))", "-", "10000", " 007 ",
                NAMES[random.nextInt(NAMES.length)]};
            String bit = bits[random.nextInt(bits.length)];
            switch (random.nextInt(4)) {
                case 0:
                    if (at < s.length()) {
                        s.deleteCharAt(at);
                    }
                    break;
                case 1:
                    s.setLength(at);
                    break;
                default:
                    s.insert(at, bit);
                    break;
            }
        }
        return s.toString();
    }
}
