import java.util.function.Consumer;

/** After a refused call, and after any question, all is as it was: on a new object, on one in the midst of things, on a full one, and on one with nothing to undo and no IMAGE. */
public final class EdgeRefusedTest {
    private static final String MIDST = "thing a 0 5 256 1;thing b 4 3 16 0 shy;thing cat 9 8 7 2 thief;thing d 12 4 11 3;lamp 1 9;lamp 10 4;lamp 20 9;"
            + "meet a b;meet d b;fog 40;seed 77;law late comes+size*own;law price size*10+day;";
    private static final String FULL = "thing a 0 5 256 1;thing b 4 3 16 0;thing c 9 8 7 2;thing d 12 4 11 3;thing e 14 4 1 3;lamp 1 9;lamp 10 4;lamp 20 9;lamp 9 29;lamp 3 3;"
            + "meet a b;meet a c;meet a d;meet a e;meet b c;meet b d;meet b e;meet c d;meet c e;meet d e;fog 40;seed 77;rule fit;";

    private final Consumer<ShadowPool> made;
    private final int things;
    private final int lamps;
    private final int seen;
    private final int taped;

    private EdgeRefusedTest(Consumer<ShadowPool> made, int things, int lamps, int seen, int taped) {
        this.made = made;
        this.things = things;
        this.lamps = lamps;
        this.seen = seen;
        this.taped = taped;
    }

    private static void makeMidst(ShadowPool x) {
        Texts.load(x, MIDST);
        x.days(2);
        x.keep();
        x.days(1);
        x.see(1, 0, 16);
        x.see(3, 3, 7);
        x.strike(0);
        x.known(2);
        x.hang(1, 11);
        x.turn(0, 2);
        x.trade(0, 3);
        x.meet(0, 3, true);
        x.meet(1, 0, false);
        Texts.load(x, "lamp 1 1 @");
        x.feed(0x6c616d70, 0x20312031, 0x3b6c616d, 0x70203120, 0x353b2020);
        x.feed(0x6c616d70, 0x20312031, 0x3b6c616d, 0x70203120, 0x353b2020);
    }

    private static void makeFull(ShadowPool x) {
        Texts.load(x, FULL);
        x.days(3);
        x.keep();
        for (int i = 0; i < 19; i++) {
            x.days(50);
        }
        x.days(46);
        for (int i = 0; i < 24; i++) {
            if (i % 4 == 3) {
                x.strike(i / 2);
            } else {
                x.see(1 + i % 20, i % 5, 7 * i);
            }
        }
        for (int i = 0; i < 5; i++) {
            x.hang(i, 20 + i);
            x.turn(i, (i + 1) % 5);
            x.trade(i, (i + 2) % 5);
            x.meet(i, (i + 3) % 5, false);
        }
        for (int i = 0; i < 5; i++) {
            x.meet(i, (i + 3) % 5, true);
        }
        for (int i = 0; i < 34; i++) {
            x.feed(0x20202020, 0x0a202020, 0x20200a20, 0x20202020, 0x20202020);
        }
        x.feed(0x6c616d70, 0x20312031, 0x3b6c616d, 0x70203120, 0x353b2020);
    }

    /** Nobody has anything, as there was fog: all stands at the WALL, nothing can be undone, there is no IMAGE. */
    private static void makeBare(ShadowPool x) {
        Texts.load(x, "thing a 0 5 256 1;thing b 4 3 16 0 shy;lamp 1 9;lamp 10 4;meet a b;fog 100;law near far;");
        x.hang(0, 2);
        x.turn(0, 1);
        x.days(3);
        x.see(1, 0, 16);
    }

    public static void main(String[] args) {
        new EdgeRefusedTest(x -> { }, 0, 0, 0, 0).runAll();
        new EdgeRefusedTest(EdgeRefusedTest::makeMidst, 4, 3, 3, 40).runAll();
        new EdgeRefusedTest(EdgeRefusedTest::makeFull, 5, 5, 24, 700).runAll();
        new EdgeRefusedTest(EdgeRefusedTest::makeBare, 2, 2, 1, 0).runAll();
        fullOnly();
        bareOnly();
        textsWithFaults();
        Edges.end();
    }

    private void runAll() {
        tapeAndText();
        thingsAndLamps();
        deeds();
        days();
        orders();
        memory();
        choices();
        chances();
        questions();
    }

    private void stays(Object due, String name, Object... args) {
        Edges.changesNothing(made, taped, due, name, args);
    }

    /** A refused call for each value beyond bounds in one place of its arguments. */
    private void staysBeyond(Object due, int least, int most, int at, String name, Object... args) {
        for (int value : Edges.beyond(least, most)) {
            Object[] all = args.clone();
            all[at] = value;
            stays(due, name, all);
        }
    }

    private void tapeAndText() {
        if (taped == 700) {
            stays(-1, "feed", 0x6c616d70, 0x20312031, 0x3b6c616d, 0x70203120, 0x353b2020);
            stays(-1, "feed", 0, 0, 0, 0, 0);
            stays(-1, "feed", -1, -1, -1, -1, -1);
        }
        staysBeyond(-2, 0, taped, 0, "text", 0);
        staysBeyond(-1, 0, 1, 0, "fault", 0);
        stays(null, "fault", 0);
        stays(null, "fault", 1);
        stays(-1, "named", 0);
        stays(-1, "named", -1);
        stays(-1, "named", Edges.LEAST);
        stays(-1, "named", Edges.GREATEST);
    }

    private void thingsAndLamps() {
        staysBeyond(Edges.NO_THING, 0, things - 1, 0, "thing", 0, 1);
        staysBeyond(Edges.NO_THING, 0, things - 1, 0, "thing", 0, 6);
        if (things > 0) {
            staysBeyond(Edges.NO_WHAT, 0, 5, 1, "thing", things - 1, 0);
        }
        staysBeyond(-1, 0, lamps - 1, 0, "lamp", 0, 1);
        staysBeyond(-1, 0, 2, 1, "lamp", 0, 0);
        stays(-1, "wall", -1);
        stays(-1, "wall", Edges.LEAST);
        stays(-2, "wall", 5);
        stays(-2, "wall", Edges.GREATEST);
        staysBeyond(Long.MIN_VALUE, 0, 2, 0, "law", 0, 0, 0);
        staysBeyond(Long.MIN_VALUE, 0, things - 1, 1, "law", 1, 0, 0);
        staysBeyond(Long.MIN_VALUE, 0, lamps - 1, 2, "law", 2, 0, 0);
        staysBeyond(-1, 0, 9, 0, "count", 0);
    }

    private void deeds() {
        staysBeyond(false, 0, lamps - 1, 0, "hang", 0, 6);
        staysBeyond(false, 0, 29, 1, "hang", 0, 0);
        for (int at = 0; at < 2; at++) {
            staysBeyond(false, 0, lamps - 1, at, "turn", 0, 0);
            staysBeyond(false, 0, things - 1, at, "trade", 0, 0);
            staysBeyond(false, 0, things - 1, at, "meet", 1, 1, true);
            staysBeyond(false, 0, things - 1, at, "meet", 1, 1, false);
            staysBeyond(false, 0, things - 1, at, "meets", 1, 1);
        }
        for (int i = 0; i < 5; i++) {
            stays(false, "turn", i, i);
            stays(false, "trade", i, i);
            stays(false, "meet", i, i, true);
            stays(false, "meet", i, i, false);
            stays(false, "meets", i, i);
        }
        if (things == 4) {
            stays(false, "hang", 1, 11);
            stays(false, "meet", 1, 3, true);
            stays(false, "meet", 3, 1, true);
            stays(false, "meet", 1, 0, false);
            stays(false, "meet", 0, 1, false);
        }
    }

    private void days() {
        staysBeyond(-1, 0, 50, 0, "days", 0);
        stays(null, "days", 0);
        if (things == 0) {
            stays(-1, "undo");
            stays(-1, "back");
        }
    }

    private void orders() {
        staysBeyond(-1, 0, 5, 0, "best", 0);
        for (int what = 0; what < 6; what++) {
            stays(null, "best", what);
        }
        staysBeyond(-1, 0, things - 1, 0, "gives", 0, 0, 0);
        staysBeyond(-1, 0, things - 1, 1, "gives", 0, 0, 0);
        staysBeyond(-1, 0, 4, 2, "gives", 0, 0, 0);
        stays(null, "gives", 0, 0, 0);
        stays(null, "gives", 1, 2, 4);
        staysBeyond(-1, 0, 2, 0, "hangs", 0);
        for (int what = 0; what < 3; what++) {
            stays(null, "hangs", what);
        }
        stays(null, "swaps");
        stays(-1, "swap", -1);
        stays(-1, "swap", Edges.LEAST);
        stays(-2, "swap", 120);
        stays(-2, "swap", Edges.GREATEST);
    }

    private void memory() {
        staysBeyond(-1, 0, things - 1, 0, "look", 0);
        staysBeyond(-1, 0, things - 1, 0, "alike", 0);
        staysBeyond(-1, 0, 511, 0, "whose", 0);
        stays(null, "sorts");
        staysBeyond(-1, 1, 20, 0, "see", 1, 0, 0);
        staysBeyond(-1, 0, things - 1, 1, "see", 1, 0, 0);
        staysBeyond(-1, 0, 511, 2, "see", 1, 0, 0);
        staysBeyond(-1, 0, seen - 1, 0, "strike", 0);
        staysBeyond(false, -1, seen, 0, "known", 0);
        stays(null, "rules");
        if (seen == 24) {
            stays(-1, "see", 1, 0, 0);
            stays(-1, "see", 20, 4, 511);
            stays(-1, "strike", 0);
            stays(-1, "strike", 23);
        }
    }

    private void choices() {
        for (int at = 0; at < 2; at++) {
            staysBeyond(-1, 0, things - 1, at, "rests", 1, 1);
            staysBeyond(-1, 0, things - 1, at, "rest", 1, 1, 0);
        }
        for (int i = 0; i < 5; i++) {
            stays(-1, "rests", i, i);
            stays(-1, "rest", i, i, 0);
        }
        stays(-1, "rest", 0, 1, -1);
        stays(-1, "rest", 0, 1, Edges.LEAST);
        stays(things > 1 ? -2 : -1, "rest", 0, 1, 25);
        stays(things > 1 ? -2 : -1, "rest", 0, 1, Edges.GREATEST);
        stays(null, "rests", 0, 1);
        stays(null, "rest", 0, 1, 0);
        staysBeyond(-1, 0, things - 1, 0, "price", 0);
        stays(null, "price", 0);
        staysBeyond(-1, 0, things - 1, 0, "season", 0, 1, 0);
        staysBeyond(-1, 1, 20, 1, "season", 0, 1, 0);
        staysBeyond(-1, 0, 1, 2, "season", 0, 1, 0);
        stays(null, "season", 0, 20, 0);
        stays(null, "season", 0, 20, 1);
    }

    private void chances() {
        staysBeyond(-1, 0, things - 1, 0, "whole", 0, 1, 0);
        staysBeyond(-1, 1, 4, 1, "whole", 0, 1, 0);
        staysBeyond(-1, 0, 1, 2, "whole", 0, 1, 0);
        stays(null, "whole", 0, 4, 0);
        stays(-1, "chance", -1, 1, 0);
        stays(-1, "chance", Edges.LEAST, 1, 0);
        staysBeyond(-1, 1, 20, 1, "chance", 0, 1, 0);
        staysBeyond(-1, 0, 5, 2, "chance", 0, 1, 0);
        stays(10, "chance", 0, 20, 0);
        stays(10, "chance", Edges.GREATEST, 20, 0);
        staysBeyond(-1, 0, 4, 0, "tried", 0, 0, 1);
        staysBeyond(-1, 0, things - 1, 1, "tried", 3, 0, 1);
        staysBeyond(-1, 0, lamps - 1, 1, "tried", 4, 0, 1);
        for (int what = 0; what < 3; what++) {
            staysBeyond(-1, 0, 0, 1, "tried", what, 0, 1);
            staysBeyond(-1, 0, 20, 2, "tried", what, 0, 1);
            stays(null, "tried", what, 0, 20);
        }
        for (int what = 3; what < 5; what++) {
            staysBeyond(-1, 0, 20, 2, "tried", what, 0, 1);
            stays(null, "tried", what, 0, 20);
        }
    }

    private void questions() {
        for (int what = 0; what < 10; what++) {
            stays(null, "count", what);
        }
        for (int what = 0; what < 3; what++) {
            stays(null, "law", what, 0, 0);
            stays(null, "lamp", 0, what);
        }
        stays(null, "wall", 0);
        stays(null, "own");
        stays(null, "look", 0);
        stays(null, "alike", 0);
        stays(null, "whose", 511);
        stays(null, "meets", 0, 1);
        stays(null, "named", 1 << 25);
        stays(null, "swap", 0);
    }

    /** "NONE: none", "NONE: there is none", "both have none", "it does", "it is so" on an object that is in use */
    private static void bareOnly() {
        EdgeRefusedTest bare = new EdgeRefusedTest(EdgeRefusedTest::makeBare, 2, 2, 1, 0);
        bare.stays(-1, "undo");
        bare.stays(-1, "back");
        bare.stays(false, "trade", 0, 1);
        bare.stays(false, "trade", 1, 0);
        bare.stays(false, "hang", 0, 2);
        bare.stays(false, "hang", 1, 10);
        bare.stays(false, "meet", 0, 1, true);
        bare.stays(false, "meet", 1, 0, true);
        bare.stays(-2, "wall", 2);
        bare.stays(0, "swaps");
        bare.stays(-2, "swap", 0);
        bare.stays(-2, "gives", 1, 0, 0);
        bare.stays(Long.MIN_VALUE, "law", 0, 0, 0);
        bare.stays(Long.MIN_VALUE, "law", 1, 0, 0);
    }

    /** "NONE with a FAULT, all stays", but the TAPE, which is empty then, and the FAULT */
    private static void textsWithFaults() {
        // the TAPE of each ends with "lamp 1 1;lamp 1 5;  ", which is cut within a LINE here
        for (int n = 1; n < 18; n++) {
            if (n != 9) {
                Edges.changesAtMostTheTape(EdgeRefusedTest::makeMidst, -1, "text", 20 + n);
                Edges.changesAtMostTheTape(EdgeRefusedTest::makeFull, -1, "text", 680 + n);
            }
        }
    }

    private static void fullOnly() {
        EdgeRefusedTest full = new EdgeRefusedTest(EdgeRefusedTest::makeFull, 5, 5, 24, 700);
        ShadowPool x = new ShadowPool();
        makeFull(x);
        Edges.due(999, x, "count", 5);
        Edges.due(20, x, "count", 9);
        Edges.due(24, x, "count", 7);
        Edges.due(10, x, "count", 2);
        for (int n = 1; n <= 50; n++) {
            full.stays(-1, "days", n);
        }
        for (int one = 0; one < 5; one++) {
            for (int other = 0; other < 5; other++) {
                full.stays(false, "meet", one, other, true);
            }
        }
    }
}
