import java.lang.reflect.InvocationTargetException;
import java.lang.reflect.Method;
import java.util.Arrays;
import java.util.List;
import java.util.function.Consumer;
import java.util.function.Function;

/** Helps the edge tests: calls by name, the answers that are due, values beyond a bound, and all that an object shows of its state. */
final class Edges {
    static final int LEAST = Integer.MIN_VALUE;
    static final int GREATEST = Integer.MAX_VALUE;
    static final String NO_THING = "throws.IndexOutOfBoundsException";
    static final String NO_WHAT = "throws.NoSuchElementException";
    private static int asked = 0;
    private static int wrong = 0;

    private Edges() {
    }

    static void is(String label, Object due, Object got) {
        asked++;
        if (!String.valueOf(due).equals(String.valueOf(got))) {
            wrong++;
            System.out.println(label + " answered " + got + ", due is " + due);
        }
    }

    static void end() {
        System.out.println(asked + " answers asked, " + wrong + " not as due");
        if (wrong != 0) {
            System.exit(1);
        }
    }

    static String call(ShadowPool x, String name, Object... args) {
        try {
            for (Method method : ShadowPool.class.getMethods()) {
                if (method.getName().equals(name) && method.getParameterCount() == args.length) {
                    return String.valueOf(method.invoke(x, args));
                }
            }
            return "no such method";
        } catch (InvocationTargetException e) {
            return "throws." + e.getCause().getClass().getSimpleName();
        } catch (IllegalAccessException e) {
            return "not public";
        }
    }

    /** Asks one call of an object. */
    static void due(Object due, ShadowPool x, String name, Object... args) {
        is(name + Arrays.toString(args), due, call(x, name, args));
    }

    static ShadowPool pool(String text) {
        ShadowPool x = new ShadowPool();
        int lines = Texts.load(x, text);
        if (lines < 0) {
            is("a FAULT " + x.fault(0) + " at " + x.fault(1) + ": text of " + text, "LINES", lines);
        }
        return x;
    }

    static void dueLines(int lines, String text) {
        ShadowPool x = pool("thing z 1 1 1 1;");
        is("text of " + text, lines, Texts.load(x, text));
        is("fault(0) of " + text, 0, x.fault(0));
        is("fault(1) of " + text, -1, x.fault(1));
    }

    static void dueFault(int kind, int place, String text) {
        ShadowPool x = pool("thing z 1 1 1 1;lamp 7 7;");
        is("text of " + text, -1, Texts.load(x, text));
        is("fault(0) of " + text, kind, x.fault(0));
        is("fault(1) of " + text, place, x.fault(1));
        is("things behind " + text, 1, x.count(0));
        is("the lamp behind " + text, 7, x.lamp(0, 0));
    }

    /** Values beyond both bounds: next to them, far from them, and such as would fit if bits were cut off. */
    static int[] beyond(int least, int most) {
        int[] all = {least - 1, least - 2, most + 1, most + 2, LEAST, LEAST + 1, GREATEST, GREATEST - 1, 256 + least, 65536 + least, LEAST + most, -100, 1000000};
        return Arrays.stream(all).filter(i -> i < least || i > most).distinct().toArray();
    }

    /** Asks a call with each value beyond bounds in one place of its arguments. */
    static void dueBeyond(Object due, ShadowPool x, int least, int most, int at, String name, Object... args) {
        for (int value : beyond(least, most)) {
            Object[] all = args.clone();
            all[at] = value;
            due(due, x, name, all);
        }
    }

    /** All that questions show without changing anything, but the TAPE and the FAULT. */
    static String seenOf(ShadowPool x) {
        StringBuilder s = new StringBuilder();
        for (int what = 0; what < 10; what++) {
            s.append(x.count(what)).append(' ');
        }
        int things = x.count(0);
        for (int thing = 0; thing < things; thing++) {
            for (int what = 0; what < 6; what++) {
                s.append(x.thing(thing, what)).append(' ');
            }
            s.append(x.law(0, thing, 0)).append(' ').append(x.price(thing)).append(' ');
            for (int other = 0; other < thing; other++) {
                s.append(x.meets(thing, other) ? 'm' : '-');
            }
        }
        int lamps = x.count(1);
        for (int lamp = 0; lamp < lamps; lamp++) {
            s.append(x.lamp(lamp, 0)).append(' ').append(x.lamp(lamp, 1)).append(' ').append(x.lamp(lamp, 2)).append(' ');
        }
        int row = x.count(6);
        for (int k = 0; k < row; k++) {
            s.append(x.wall(k)).append(' ');
        }
        int swaps = x.swaps();
        for (int k = 0; k < swaps; k++) {
            s.append(x.swap(k)).append(' ');
        }
        return s.append(x.rules()).append('\n').toString();
    }

    /** What was SEEN, by each number that it can be KNOWN by. */
    private static String memoryOf(ShadowPool x) {
        StringBuilder s = new StringBuilder();
        int seen = x.count(7);
        for (int n = 0; n <= seen; n++) {
            s.append(x.known(n)).append(x.rules()).append(' ');
        }
        return s.toString();
    }

    private static String undoneOf(ShadowPool x) {
        StringBuilder s = new StringBuilder();
        int things = x.count(0);
        int lamps = x.count(1);
        for (int left = x.undo(); left >= 0; left = x.undo()) {
            s.append(left).append(": ").append(x.count(2)).append(' ');
            for (int thing = 0; thing < things; thing++) {
                s.append(x.thing(thing, 1)).append(' ');
            }
            for (int lamp = 0; lamp < lamps; lamp++) {
                s.append(x.lamp(lamp, 0)).append('.').append(x.lamp(lamp, 2)).append(' ');
            }
        }
        return s.append(seenOf(x)).toString();
    }

    /** Some DAYS, which show the last number too. */
    private static String daysOf(ShadowPool x) {
        StringBuilder s = new StringBuilder();
        int things = x.count(0);
        for (int i = 0; i < 12; i++) {
            s.append(x.days(1)).append(": ");
            for (int thing = 0; thing < things; thing++) {
                s.append(x.thing(thing, 1)).append(' ');
            }
        }
        return s.toString();
    }

    private static String imageOf(ShadowPool x) {
        return x.back() + " " + seenOf(x) + daysOf(x);
    }

    /** How a TAPE of so many bytes stands: that there is not one more, and what a text of all of it is. */
    private static String tapeOf(ShadowPool x, int length) {
        return x.text(length + 1) + " " + x.text(length) + " " + x.fault(0) + " " + x.fault(1) + " " + seenOf(x);
    }

    /** Two objects made alike, one of them with a call more that must answer so (null: whatever) and change nothing, however it is looked at. */
    static void changesNothing(Consumer<ShadowPool> made, int taped, Object due, String name, Object... args) {
        changesAtMostTheTape(made, due, name, args);
        looksTheSame(x -> x.fault(0) + " " + x.fault(1), made, due, name, args);
        looksTheSame(x -> tapeOf(x, taped), made, due, name, args);
    }

    /** The same of a call that may change the TAPE and the FAULT, but nothing else. */
    static void changesAtMostTheTape(Consumer<ShadowPool> made, Object due, String name, Object... args) {
        List<Function<ShadowPool, String>> views = List.of(Edges::seenOf, Edges::memoryOf, Edges::undoneOf, Edges::daysOf, Edges::imageOf);
        for (Function<ShadowPool, String> view : views) {
            looksTheSame(view, made, due, name, args);
        }
    }

    private static void looksTheSame(Function<ShadowPool, String> view, Consumer<ShadowPool> made, Object due, String name, Object... args) {
        String label = name + Arrays.toString(args);
        ShadowPool plain = new ShadowPool();
        ShadowPool called = new ShadowPool();
        made.accept(plain);
        made.accept(called);
        String got = call(called, name, args);
        if (due != null) {
            is(label, due, got);
        }
        is("what is seen behind " + label, view.apply(plain), view.apply(called));
    }
}
