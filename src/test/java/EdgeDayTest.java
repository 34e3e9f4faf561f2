/** Each sentence on DAYS, NAMES, VALUES and numbers that names a bound (==== 2, promises 9, 15 and 16). */
public final class EdgeDayTest {
    private static final long MOST = 1000000000000L;
    private static final String TRILLION = "5000*5000*5000*8";

    public static void main(String[] args) {
        duskByComes();
        duskBehindThoseThere();
        duskByLate();
        fogBelowItsOdds();
        fogAlwaysAndNever();
        withinReach();
        neitherThiefNorShy();
        onlyWithoutShadow();
        lampsInTheirOrder();
        leastNearFirst();
        queueAndStack();
        fitNearestSize();
        thievesTakeTheGreatest();
        noonOnlyIfMore();
        noonInOrder();
        namesOfLate();
        namesOfNear();
        namesOneBehindAnother();
        valuesUpToTheMost();
        divisions();
        truths();
        daysUpToFifty();
        daysUpToTheLast();
        asItGoesWithoutFog();
        ownNow();
        Edges.end();
    }

    private static String had(ShadowPool x) {
        StringBuilder s = new StringBuilder();
        for (int thing = 0; thing < x.count(0); thing++) {
            s.append(thing > 0 ? " " : "").append(x.thing(thing, 1));
        }
        return s.toString();
    }

    private static String row(ShadowPool x) {
        StringBuilder s = new StringBuilder();
        for (int k = 0; x.wall(k) >= 0; k++) {
            s.append(k > 0 ? " " : "").append(x.wall(k));
        }
        return s.toString();
    }

    private static void dueRow(String due, ShadowPool x) {
        x.days(1);
        Edges.is("the row", due, row(x));
    }

    private static void dueHad(String due, ShadowPool x) {
        x.days(1);
        Edges.is("what they have", due, had(x));
    }

    /** "COMES without ... the least first, of like ones by numbers" */
    private static void duskByComes() {
        String five = "thing a 1 1 1 9;thing b 1 1 1 0;thing c 1 1 1 5;thing d 1 1 1 0;thing e 1 1 1 9;";
        dueRow("1 3 2 0 4", Edges.pool(five));
        ShadowPool x = Edges.pool(five);
        x.trade(0, 1);
        // the THING that comes first brings what it has
        dueRow("0 3 2 1 4", x);
        dueRow("0 1 2 3 4", Edges.pool("thing a 1 1 1 4;thing b 1 1 1 4;thing c 1 1 1 4;thing d 1 1 1 4;thing e 1 1 1 4;"));
        dueRow("4 3 2 1 0", Edges.pool("thing a 1 1 1 9;thing b 1 1 1 8;thing c 1 1 1 2;thing d 1 1 1 1;thing e 1 1 1 0;"));
        dueRow("0", Edges.pool("thing a 1 1 1 9;"));
        dueRow("", Edges.pool("lamp 1 1;"));
    }

    /** "all SHADOWS that THINGS have go to the WALL, behind those there" */
    private static void duskBehindThoseThere() {
        ShadowPool x = Edges.pool("thing a 0 1 1 5;thing b 9 1 1 0;lamp 0 0;");
        x.days(1);
        Edges.is("had", "1 -1", had(x));
        Edges.is("row", "0", row(x));
        x.days(1);
        // what stood there stays ahead, though a comes later than b would
        Edges.is("had", "0 -1", had(x));
        Edges.is("row", "1", row(x));
        ShadowPool y = Edges.pool("thing a 0 1 1 1;thing b 1 1 1 2;thing c 2 1 1 3;");
        y.days(1);
        Edges.is("all at the wall", "0 1 2", row(y));
        y.days(30);
        Edges.is("they stay so", "0 1 2", row(y));
        Edges.is("who has none brings none", 3, y.count(6));
    }

    /** "by E of late of these THINGS (COMES ... with an ERROR), the least first" */
    private static void duskByLate() {
        dueRow("1 2 0", Edges.pool("thing a 1 1 1 1;thing b 1 9 1 2;thing c 1 5 1 3;law late 0-size;"));
        dueRow("0 1 2", Edges.pool("thing a 1 1 1 3;thing b 1 9 1 2;thing c 1 5 1 1;law late 7;"));
        // a: an ERROR, so its COMES 3; b: 10; c: -10
        dueRow("2 0 1", Edges.pool("thing a 1 5 1 3;thing b 1 6 1 0;thing c 1 4 1 9;law late 10/(size-5);"));
        // all with an ERROR
        dueRow("2 1 0", Edges.pool("thing a 1 5 1 3;thing b 1 6 1 2;thing c 1 4 1 1;law late 1/0;"));
        dueRow("2 1 0", Edges.pool("thing a 1 5 1 3;thing b 1 6 1 2;thing c 1 4 1 1;law late " + TRILLION + "+1;"));
        // values are longs: 2 to the 32 isn't as 0
        dueRow("1 0", Edges.pool("thing a 1 1 1 1;thing b 1 2 1 1;law late (size=1)*4096*4096*256;"));
        dueRow("1 0", Edges.pool("thing a 1 1 1 1;thing b 1 2 1 1;law late " + TRILLION + "-(size=2);"));
        dueRow("0 1", Edges.pool("thing a 1 1 1 1;thing b 1 2 1 1;law late 0-" + TRILLION + "+(size=2);"));
        ShadowPool x = Edges.pool("thing a 1 1 1 1;thing b 1 2 1 1;law late size;");
        x.trade(0, 1);
        // size of what they have: b's THING has 1 and comes first with a's SHADOW
        dueRow("0 1", x);
    }

    private static long number(long last) {
        return (last * 1103515245L + 12345L) % (1L << 31);
    }

    /** "a number modulo 100: if that is below them, nothing of (3), (4) is done"; "Numbers are the last one (at first the seed) times 1103515245 and 12345 ..." */
    private static void fogBelowItsOdds() {
        for (int seed : new int[] {0, 1, 2, 3, 77, 4711, 65535, 65536, 99998, 99999}) {
            for (int days = 1; days <= 4; days++) {
                long last = seed;
                for (int i = 0; i < days; i++) {
                    last = number(last);
                }
                int drawn = (int) (last / 65536 % 100);
                dueFog(seed, drawn, days, false);
                dueFog(seed, Math.min(100, drawn + 1), days, true);
                dueFog(seed, 100, days, true);
                if (drawn > 1) {
                    dueFog(seed, drawn - 1, days, false);
                    dueFog(seed, 1, days, false);
                }
            }
        }
    }

    private static void dueFog(int seed, int odds, int days, boolean fog) {
        ShadowPool x = Edges.pool("thing a 5 1 1 1;thing b 6 1 1 1 thief;lamp 5 0;seed " + seed + ";fog " + odds + ";");
        x.days(days);
        Edges.is("had with seed " + seed + ", fog " + odds + ", day " + days, fog ? "-1 -1" : "0 1", had(x));
        Edges.is("row with seed " + seed + ", fog " + odds + ", day " + days, fog ? 2 : 0, x.count(6));
    }

    private static void fogAlwaysAndNever() {
        ShadowPool never = Edges.pool("thing a 5 1 1 1;lamp 5 0;fog 0;seed 5;");
        ShadowPool always = Edges.pool("thing a 5 1 1 1;lamp 5 0;fog 100;seed 5;");
        for (int i = 0; i < 50; i++) {
            never.days(1);
            always.days(1);
            Edges.is("never fog", 1, never.own());
            Edges.is("always fog", 0, always.own());
        }
        // (5) is done all the same, but nobody has anything then
        ShadowPool met = Edges.pool("thing a 5 1 1 1;thing b 5 1 1 1;lamp 5 0;fog 100;meet a b;");
        met.trade(0, 1);
        met.days(1);
        Edges.is("fog and a meeting", "-1 -1", had(met));
        Edges.is("fog and a meeting", "1 0", row(met));
    }

    /** "whose PLACE is within its REACH of its PLACE": at the bound and one beyond, either way */
    private static void withinReach() {
        for (int place : new int[] {0, 1, 14, 28, 29}) {
            for (int lamp : new int[] {0, 1, 13, 14, 28, 29}) {
                for (int reach : new int[] {0, 1, 2, 13, 14, 15, 27, 28, 29}) {
                    ShadowPool x = Edges.pool("thing a " + place + " 1 1 1;lamp " + lamp + " " + reach + ";");
                    x.days(1);
                    boolean within = place - lamp <= reach && lamp - place <= reach;
                    Edges.is("own of place " + place + ", lamp " + lamp + " " + reach, within ? 1 : 0, x.own());
                }
            }
        }
    }

    /** "neither THIEF nor SHY" */
    private static void neitherThiefNorShy() {
        // by stack the last of the row would be c's: the LAMP gives a alone, then the THIEF takes the greatest
        ShadowPool x = Edges.pool("thing a 5 1 1 0;thing b 5 9 1 1 shy;thing c 5 4 1 2 thief;lamp 5 29;rule stack;");
        x.days(1);
        Edges.is("had", "2 -1 1", had(x));
        Edges.is("row", "0", row(x));
        ShadowPool y = Edges.pool("thing a 5 1 1 0 shy;lamp 5 29;");
        y.days(1);
        Edges.is("a shy one alone", "-1", had(y));
        ShadowPool z = Edges.pool("thing a 5 1 1 0 thief;");
        z.days(1);
        Edges.is("a thief without a lamp", "0", had(z));
    }

    /** "of the THINGS without a SHADOW": whom one LAMP gave, the next doesn't give */
    private static void onlyWithoutShadow() {
        ShadowPool x = Edges.pool("thing a 5 1 1 0;thing b 6 1 1 1 shy;lamp 5 0;lamp 5 0;lamp 5 29;");
        x.days(1);
        Edges.is("had", "0 -1", had(x));
        Edges.is("row", "1", row(x));
    }

    /** "LAMPS in their ORDER" */
    private static void lampsInTheirOrder() {
        String two = "thing a 0 1 1 1;thing b 9 1 1 0;lamp 0 0;lamp 9 0;";
        dueHad("1 0", Edges.pool(two));
        ShadowPool x = Edges.pool(two);
        x.turn(0, 1);
        dueHad("0 1", x);
        x.turn(1, 0);
        // the row is b a now, as b comes first
        dueHad("1 0", x);
    }

    /** "that with the least E of near first (how FAR they are without, with an ERROR), of like ones by numbers" */
    private static void leastNearFirst() {
        String three = "thing a 4 1 1 0;thing b 5 1 1 1;thing c 6 1 1 2;";
        // the row is 0 1 2; without a law by how far
        dueHad("1 0 2", Edges.pool(three + "lamp 5 9;"));
        dueHad("2 1 0", Edges.pool(three + "lamp 9 9;"));
        dueHad("0 1 2", Edges.pool(three + "lamp 0 9;"));
        dueHad("0 1 2", Edges.pool(three + "lamp 0 9;law near 1;"));
        dueHad("2 1 0", Edges.pool(three + "lamp 0 9;law near 0-far;"));
        // b has an ERROR, so 1 as it is 1 far; a: 10/-1, c: 10/1
        dueHad("0 1 2", Edges.pool(three + "lamp 5 9;law near 10/(comes-1);"));
        dueHad("1 0 2", Edges.pool(three + "lamp 5 9;law near 1/0;"));
        dueHad("1 0 2", Edges.pool(three + "lamp 5 9;law near " + TRILLION + "+1;"));
        // values are longs
        dueHad("2 0 1", Edges.pool(three + "lamp 5 9;law near (comes=0)*4096*4096*256;"));
        // of its own SHADOW's size, whatever it had
        ShadowPool x = Edges.pool("thing a 5 3 1 0;thing b 5 2 1 1;lamp 5 0;law near size;");
        x.trade(0, 1);
        // a brings 1 first, then b 0; b has the lesser own one
        dueHad("0 1", x);
    }

    /** "by queue the first of the row, by stack the last" */
    private static void queueAndStack() {
        String five = "thing a 1 1 1 4;thing b 1 2 1 3;thing c 1 3 1 2;thing d 1 4 1 1;thing e 1 5 1 0;lamp 1 0;";
        // the row is 4 3 2 1 0
        dueHad("4 3 2 1 0", Edges.pool(five));
        dueHad("4 3 2 1 0", Edges.pool(five + "rule queue;"));
        dueHad("0 1 2 3 4", Edges.pool(five + "rule stack;"));
        dueHad("0", Edges.pool("thing a 1 1 1 4;lamp 1 0;rule stack;"));
        dueHad("0", Edges.pool("thing a 1 1 1 4;lamp 1 0;rule fit;"));
    }

    /** "by fit that whose SIZE is nearest to that of its own SHADOW, of several the first of the row" */
    private static void fitNearestSize() {
        // dusk brings all SHADOWS, so there is always one of like size left
        dueHad("-1 -1 -1 -1 4", Edges.pool("thing a 9 1 1 0;thing b 9 9 1 1;thing c 9 4 1 2;thing d 9 6 1 3;thing e 1 5 1 4;lamp 1 0;rule fit;"));
        dueHad("0 1 2 3 4", Edges.pool("thing a 9 1 1 4;thing b 9 9 1 3;thing c 9 4 1 2;thing d 9 6 1 1;thing e 1 5 1 0;lamp 1 29;rule fit;"));
        // the row is b's, a's
        dueHad("1 -1", Edges.pool("thing a 1 5 1 1;thing b 9 5 1 0;lamp 1 0;rule fit;"));
        dueHad("-1 1", Edges.pool("thing a 9 5 1 1;thing b 1 5 1 0;lamp 1 0;rule fit;"));
        // the row is c's 6, b's 5, a's 5, d's 5: d is nearest, then b, then a
        dueHad("3 0 2 1", Edges.pool("thing a 3 5 1 2;thing b 2 5 1 1;thing c 4 6 1 0;thing d 1 5 1 3;lamp 1 9;rule fit;"));
        ShadowPool x = Edges.pool("thing a 1 5 1 0;thing b 1 4 1 1;thing c 1 5 1 2;lamp 1 0;rule fit;");
        x.trade(0, 1);
        x.trade(1, 2);
        // a has b's, b c's, c a's: the row is 1 2 0; a gets the first 5, c the other one
        dueHad("2 1 0", x);
    }

    /** "THIEVES by numbers get that with the greatest SIZE, of several the first of the row, while there are any" */
    private static void thievesTakeTheGreatest() {
        ShadowPool x = Edges.pool("thing a 1 1 1 4 thief;thing b 1 2 1 3 thief;thing c 1 9 1 2 thief;thing d 1 9 1 1 thief;thing e 1 5 1 0 thief;");
        // the row is e 5, d 9, c 9, b 2, a 1
        dueHad("3 2 4 1 0", x);
        ShadowPool y = Edges.pool("thing a 1 7 1 1;thing b 1 7 1 0;thing c 1 7 1 5 thief;lamp 9 0;");
        y.days(1);
        Edges.is("of several the first of the row", "-1 -1 1", had(y));
        Edges.is("what is left", "0 2", row(y));
        // a THIEF takes what LAMPS left, not more
        ShadowPool z = Edges.pool("thing a 1 9 1 0;thing b 1 2 1 1 thief;lamp 1 0;");
        dueHad("0 1", z);
    }

    /** "if more of the two would have their own so, they swap what they have (also nothing)" */
    private static void noonOnlyIfMore() {
        // one more: both
        dueHad("0 1", Edges.pool("thing a 1 1 1 1;thing b 1 1 1 0;lamp 1 0;meet a b;"));
        // as many: one has its own now, the other would then; they don't swap
        ShadowPool x = Edges.pool("thing a 1 1 1 0;thing b 9 1 1 1 shy;lamp 1 0;meet a b;");
        dueHad("0 -1", x);
        // with nothing: b would have its own
        ShadowPool y = Edges.pool("thing a 1 1 1 1;thing b 9 1 1 0 shy;lamp 1 0;meet b a;");
        dueHad("-1 1", y);
        // a third one's: nobody would have more
        ShadowPool z = Edges.pool("thing a 1 1 1 1;thing b 9 1 1 5 shy;thing c 20 1 1 0 shy;lamp 1 0;meet a b;");
        dueHad("2 -1 -1", z);
        // both nothing
        ShadowPool w = Edges.pool("thing a 1 1 1 1 shy;thing b 9 1 1 5 shy;meet a b;");
        dueHad("-1 -1", w);
    }

    /** "noon: MEETINGS in order" */
    private static void noonInOrder() {
        // the row 2 0 1, so a has 2, b 0, c 1
        String three = "thing a 0 1 1 1;thing b 1 1 1 2;thing c 2 1 1 0;lamp 0 2;";
        dueHad("0 2 1", Edges.pool(three + "meet a b;"));
        dueHad("0 1 2", Edges.pool(three + "meet a b;meet b c;"));
        dueHad("2 1 0", Edges.pool(three + "meet b c;meet a b;"));
        dueHad("0 1 2", Edges.pool(three + "meet b c;meet a c;"));
        dueHad("1 0 2", Edges.pool(three + "meet a c;"));
        dueHad("0 1 2", Edges.pool(three + "meet a c;meet a b;"));
        dueHad("0 2 1", Edges.pool(three + "meet a b;meet a c;"));
        ShadowPool x = Edges.pool(three + "meet a c;meet a b;");
        x.meet(0, 2, false);
        x.meet(0, 2, true);
        // a c stands behind a b now
        dueHad("0 2 1", x);
    }

    /** "size: SIZE of the SHADOW it has (of late, price; 0 of none ..); comes; far .. (of near; else 0); own; kind; day; which .. (of near; else 0)" */
    private static void namesOfLate() {
        String[] kinds = {"late", "price"};
        for (int what = 0; what < 2; what++) {
            String law = "law " + kinds[what] + " ";
            String[] names = {"size", "comes", "far", "own", "kind", "day", "which"};
            long[] first = {9, 3, 0, 1, 2, 0, 0};
            long[] traded = {4, 3, 0, 0, 2, 0, 0};
            long[] later = {0, 3, 0, 0, 2, 50, 0};
            for (int i = 0; i < 7; i++) {
                ShadowPool x = Edges.pool("thing a 20 9 1 3 shy;thing b 2 4 1 5 thief;lamp 1 1;lamp 2 2;" + law + names[i] + ";");
                Edges.due(first[i], x, "law", what, 0, 1);
                x.trade(0, 1);
                Edges.due(traded[i], x, "law", what, 0, 1);
                x.days(50);
                Edges.due(later[i], x, "law", what, 0, 1);
                Edges.due(Long.MIN_VALUE, x, "law", 1 - what, 0, 1);
                Edges.due(Long.MIN_VALUE, x, "law", 2, 0, 1);
                // the LAMP isn't looked at
                for (int lamp : Edges.beyond(0, 1)) {
                    Edges.due(later[i], x, "law", what, 0, lamp);
                }
            }
        }
    }

    /** What near asked of far and which doesn't stay for late and price. */
    private static void namesOneBehindAnother() {
        ShadowPool x = Edges.pool("thing a 20 9 1 3;lamp 1 1;lamp 2 2;law near far*10+which;law late far*10+which;law price far*10+which;");
        for (int i = 0; i < 2; i++) {
            Edges.due(181L, x, "law", 2, 0, 1);
            Edges.due(0L, x, "law", i, 0, 1);
            Edges.due(0L, x, "law", 1 - i, 0, 1);
        }
        x.days(1);
        Edges.due(0L, x, "law", 0, 0, 0);
        Edges.due(0, x, "price", 0);
    }

    private static void namesOfNear() {
        String[] names = {"size", "comes", "far", "own", "kind", "day", "which"};
        long[] first = {9, 3, 19, 1, 1, 0, 0};
        long[] other = {9, 3, 9, 1, 1, 0, 1};
        long[] traded = {9, 3, 9, 0, 1, 0, 1};
        long[] later = {9, 3, 20, 0, 1, 50, 1};
        for (int i = 0; i < 7; i++) {
            ShadowPool x = Edges.pool("thing a 20 9 1 3 thief;thing b 2 4 1 5 thief;lamp 1 1;lamp 29 2;law near " + names[i] + ";");
            Edges.due(first[i], x, "law", 2, 0, 0);
            Edges.due(other[i], x, "law", 2, 0, 1);
            x.trade(0, 1);
            Edges.due(traded[i], x, "law", 2, 0, 1);
            x.days(50);
            x.hang(1, 0);
            x.turn(0, 1);
            if (x.thing(0, 1) == 0) {
                x.trade(0, 1);
            }
            Edges.due(later[i], x, "law", 2, 0, 1);
            Edges.dueBeyond(Long.MIN_VALUE, x, 0, 1, 2, "law", 2, 0, 0);
            Edges.dueBeyond(Long.MIN_VALUE, x, 0, 1, 1, "law", 2, 0, 0);
        }
    }

    private static void worth(long due, String expression) {
        Edges.is(expression, due, Edges.pool("thing a 2 4 3 1;law late " + expression + ";").law(0, 0, 0));
    }

    private static void error(String expression) {
        worth(Long.MIN_VALUE, expression);
        // a part of it is enough
        worth(Long.MIN_VALUE, "0*(" + expression + ")");
        worth(Long.MIN_VALUE, "(" + expression + ")>0");
        worth(Long.MIN_VALUE, "not (" + expression + ")");
        worth(Long.MIN_VALUE, "1 or (" + expression + ")");
        worth(Long.MIN_VALUE, "(" + expression + ") or 1");
        worth(Long.MIN_VALUE, "0 and (" + expression + ")");
        worth(Long.MIN_VALUE, "(" + expression + ") and 0");
    }

    /** "ERROR: ... a value above 10 to the 12 or below 0 by more than that" */
    private static void valuesUpToTheMost() {
        worth(MOST, TRILLION);
        worth(-MOST, "0-" + TRILLION);
        worth(MOST - 1, TRILLION + "-1");
        worth(1 - MOST, "0-" + TRILLION + "+1");
        worth(MOST, TRILLION + "-1+1");
        worth(MOST, TRILLION + "+0");
        worth(0, TRILLION + "-" + TRILLION);
        worth(MOST, "(" + TRILLION + ")*1");
        worth(-MOST, "(" + TRILLION + ")*(0-1)");
        worth(MOST, "(0-" + TRILLION + ")*(0-1)");
        worth(MOST, "1*(" + TRILLION + ")");
        worth(0, "(" + TRILLION + ")*0");
        worth(0, "0*(0-" + TRILLION + ")");
        worth(1, "(" + TRILLION + ")/(" + TRILLION + ")");
        error(TRILLION + "+1");
        error("1+" + TRILLION);
        error(TRILLION + "-(0-1)");
        error("0-" + TRILLION + "-1");
        error("(" + TRILLION + ")+(" + TRILLION + ")");
        error("(" + TRILLION + ")*2");
        error("2*(" + TRILLION + ")");
        error("(" + TRILLION + ")*(0-2)");
        error("(" + TRILLION + ")*(" + TRILLION + ")");
        error("(0-" + TRILLION + ")*(" + TRILLION + ")");
        error("(0-" + TRILLION + ")*(0-" + TRILLION + ")");
        // 1000001 * 1000000 is just beyond
        error("(1000*1000+1)*(1000*1000)");
        worth(MOST, "(1000*1000)*(1000*1000)");
        worth(MOST - 1, "(1000*1000+1)*(1000*1000-1)");
        // products that would be small again beyond 64 bits
        error("(4096*4096*4096)*(4096*4096*4)");
        error("(4096*4096*4096)*(4096*4096*4+1)");
        error("(4096*4096*2048)*(4096*4096*2048)");
        error("9999*9999*9999*9999*9999*9999");
    }

    /** "/ is cut towards 0; ERROR: / by 0" */
    private static void divisions() {
        worth(3, "7/2");
        worth(-3, "(0-7)/2");
        worth(-3, "7/(0-2)");
        worth(3, "(0-7)/(0-2)");
        worth(0, "1/2");
        worth(0, "(0-1)/2");
        worth(0, "0/5");
        worth(9999, "9999/1");
        worth(-9999, "9999/(0-1)");
        worth(-MOST, "(" + TRILLION + ")/(0-1)");
        error("1/0");
        error("0/0");
        error("(0-1)/0");
        error("1/(5-5)");
        error("1/far");
        error("(" + TRILLION + ")/0");
    }

    /** "comparisons, and, or, not are 1 or 0 (what isn't 0 is as 1 ..)" */
    private static void truths() {
        String[] signs = {"<", "<=", "=", "<>", ">=", ">"};
        int[][] due = {{1, 1, 0, 1, 0, 0}, {0, 1, 1, 0, 1, 0}, {0, 0, 0, 1, 1, 1}};
        for (int i = 0; i < 6; i++) {
            worth(due[0][i], "1" + signs[i] + "2");
            worth(due[1][i], "2" + signs[i] + "2");
            worth(due[2][i], "3" + signs[i] + "2");
            worth(due[0][i], "0-1" + signs[i] + "0");
            worth(due[0][i], "(0-" + TRILLION + ")" + signs[i] + TRILLION);
            worth(due[2][i], "4096*4096*256" + signs[i] + "0");
        }
        for (String value : new String[] {"1", "2", "9999", "(0-1)", "4096*4096*256", TRILLION}) {
            worth(0, "not " + value);
            worth(1, "not not " + value);
            worth(1, value + " and 1");
            worth(1, "1 and " + value);
            worth(0, value + " and 0");
            worth(0, "0 and " + value);
            worth(1, value + " or 0");
            worth(1, "0 or " + value);
            worth(1, value + " or 1");
        }
        worth(1, "not 0");
        worth(0, "0 or 0");
        worth(0, "0 and 0");
        worth(1, "1 or 0 and 0");
        worth(1, "0 and 0 or 1");
        worth(0, "not 1 or 0");
        worth(1, "not 1<1");
        worth(1, "not 0 and 1");
        worth(0, "not (0 or 1)");
        worth(1, "2+3=5");
        worth(7, "1+2*3");
        worth(9, "(1+2)*3");
        worth(1, "10-4-5");
        worth(12, "100/4/2");
        worth(12, "100/25*3");
    }

    /** "So many DAYS (0 .. 50) go by: which one it is; NONE, and none does: no such number" */
    private static void daysUpToFifty() {
        ShadowPool x = Edges.pool("thing a 5 1 1 1;lamp 5 0;");
        Edges.due(0, x, "days", 0);
        Edges.dueBeyond(-1, x, 0, 50, 0, "days", 0);
        Edges.due(0, x, "count", 5);
        Edges.due(1, x, "days", 1);
        Edges.due(51, x, "days", 50);
        Edges.due(51, x, "days", 0);
        Edges.dueBeyond(-1, x, 0, 50, 0, "days", 0);
        Edges.due(51, x, "count", 5);
        ShadowPool one = Edges.pool("thing a 0 1 1 1;thing b 9 1 1 0;lamp 0 9;fog 30;seed 9;");
        ShadowPool many = Edges.pool("thing a 0 1 1 1;thing b 9 1 1 0;lamp 0 9;fog 30;seed 9;");
        for (int n = 0; n <= 10; n++) {
            for (int i = 0; i < n; i++) {
                one.days(1);
            }
            many.days(n);
            Edges.is("days one by one, or so many", had(one) + " " + row(one), had(many) + " " + row(many));
        }
    }

    /** "NONE, and none does: ... behind 999" */
    private static void daysUpToTheLast() {
        ShadowPool x = Edges.pool("thing a 5 1 1 1;lamp 5 0;law late day;");
        for (int i = 1; i <= 19; i++) {
            Edges.due(50 * i, x, "days", 50);
        }
        Edges.due(-1, x, "days", 50);
        Edges.due(950, x, "count", 5);
        Edges.due(998, x, "days", 48);
        Edges.due(-1, x, "days", 2);
        Edges.due(-1, x, "days", 50);
        Edges.due(998, x, "days", 0);
        Edges.due(999, x, "days", 1);
        Edges.due(999L, x, "law", 0, 0, 0);
        for (int n = 1; n <= 51; n++) {
            Edges.due(-1, x, "days", n);
        }
        Edges.due(-1, x, "days", Edges.GREATEST);
        Edges.due(-1, x, "days", Edges.LEAST);
        Edges.due(999, x, "days", 0);
        Edges.due(999, x, "count", 5);
        Edges.due(999, x, "keep");
        // what only looks ahead goes on
        Edges.due(1, x, "best", 5);
        Edges.due(1, x, "tried", 0, 0, 20);
        Edges.due(999, x, "season", 0, 20, 0);
        Edges.due(1, x, "whole", 0, 4, 0);
        Edges.due(10, x, "chance", 1, 20, 1);
    }

    /** "AS IT GOES: without fog (no numbers)." */
    private static void asItGoesWithoutFog() {
        ShadowPool x = Edges.pool("thing a 5 1 1 1;thing b 6 2 1 1;lamp 5 1;fog 100;law price size*(1+day);");
        Edges.due(2, x, "best", 5);
        Edges.due(0, x, "gives", 0, 0, 0);
        Edges.due(-2, x, "hangs", 0);
        Edges.due(2, x, "tried", 0, 0, 20);
        Edges.due(19, x, "season", 0, 20, 0);
        Edges.due(20, x, "season", 0, 20, 1);
        x.see(20, 0, 1);
        Edges.due(7, x, "rules");
        Edges.due(0, x, "whole", 0, 1, 0);
        Edges.due(0, x, "chance", 5, 1, 1);
        x.days(1);
        Edges.due(0, x, "own");
    }

    /** "OWN: how many have their own", from none to all */
    private static void ownNow() {
        ShadowPool x = Edges.pool("thing a 5 1 1 1;thing b 6 1 1 1;thing c 7 1 1 1;thing d 8 1 1 1;thing e 9 1 1 1;");
        Edges.due(5, x, "own");
        x.trade(0, 1);
        Edges.due(3, x, "own");
        x.trade(1, 2);
        Edges.due(2, x, "own");
        x.trade(3, 4);
        Edges.due(0, x, "own");
        x.days(1);
        Edges.due(0, x, "own");
    }
}
