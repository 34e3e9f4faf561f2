/** Each sentence on what is searched, seen, priced and tried that names a bound (==== 3, promises 17 to 36). */
public final class EdgeAskTest {
    /** c within no reach, so a and b go by the row: a gets b's, then its own, in turns. */
    private static final String TURNS = "thing a 0 5 256 1;thing b 9 5 7 0;lamp 0 0;";

    public static void main(String[] args) {
        bestOfEachOrder();
        bestOfFewLamps();
        givesEachTurn();
        givesByTheLastOrder();
        searchesGoAsDaysGo();
        givesByNone();
        hangsAtEachPlace();
        hangsByNone();
        swapsOfNone();
        swapsOfMany();
        swapsByNone();
        looksOfAllShapes();
        alikeAndSorts();
        seeUpToItsBounds();
        strikeOfOneSeen();
        knownByHowMany();
        strikesOfStrikes();
        rulesByDays();
        rulesFromTheText();
        restsFromNoneToAll();
        restsOfTwoAlike();
        priceUpToItsBounds();
        seasonUpToTwentyDays();
        seasonTheFirstOfSeveral();
        wholeInLeastTerms();
        wholeUpToFourDays();
        chanceUpToItsBounds();
        chanceGoesOnWithItsNumbers();
        triedUpToItsBounds();
        triedEachWay();
        Edges.end();
    }

    /** Five THINGS, each alone with its own LAMP; they come as told, so that the row is their order. */
    private static String fiveAlone(int[] comes) {
        StringBuilder s = new StringBuilder();
        for (int i = 0; i < comes.length; i++) {
            s.append("thing ").append((char) ('a' + i)).append(' ').append(5 * i).append(" 1 1 ").append(comes[i]).append(";lamp ").append(5 * i).append(" 0;");
        }
        return s.toString();
    }

    /** "that of all LAMPS by which OWN is greatest behind today": each of the 120 may be it */
    private static void bestOfEachOrder() {
        for (int code = 0; code < 3125; code++) {
            int[] comes = new int[5];
            int bits = 0;
            for (int i = 0, rest = code; i < 5; i++, rest /= 5) {
                comes[i] = rest % 5;
                bits |= 1 << comes[i];
            }
            if (bits != 31) {
                continue;
            }
            ShadowPool x = Edges.pool(fiveAlone(comes));
            for (int lamp = 0; lamp < 5; lamp++) {
                Edges.due(lamp, x, "best", comes[lamp]);
            }
            Edges.due(5, x, "best", 5);
        }
    }

    /** "what 0 .. 4: the LAMP lit as the how-manieth (-2: not so many), 5: OWN behind today by it. NONE for another what." */
    private static void bestOfFewLamps() {
        for (int lamps = 0; lamps <= 5; lamps++) {
            ShadowPool x = Edges.pool("thing a 29 1 1 1;" + "lamp 1 1;".repeat(lamps));
            for (int what = 0; what < 5; what++) {
                Edges.due(what < lamps ? what : -2, x, "best", what);
            }
            Edges.due(0, x, "best", 5);
            Edges.dueBeyond(-1, x, 0, 5, 0, "best", 0);
            // of several the first by LAMPS, whatever their ORDER is now
            if (lamps > 1) {
                x.turn(0, lamps - 1);
                Edges.due(0, x, "best", 0);
                Edges.due(lamps - 1, x, "lamp", 0, 2);
            }
        }
        ShadowPool thief = Edges.pool("thing a 29 1 1 1 thief;");
        Edges.due(1, thief, "best", 5);
        Edges.due(-2, thief, "best", 0);
    }

    /** "the first ORDER so by which a THING has a told SHADOW behind today" */
    private static void givesEachTurn() {
        ShadowPool x = Edges.pool(fiveAlone(new int[] {0, 1, 2, 3, 4}));
        for (int thing = 0; thing < 5; thing++) {
            for (int shadow = 0; shadow < 5; shadow++) {
                // its LAMP lit as the shadow-th, all others by numbers
                int next = 0;
                for (int what = 0; what < 5; what++) {
                    if (what == shadow) {
                        Edges.due(thing, x, "gives", thing, shadow, what);
                    } else {
                        next += next == thing ? 1 : 0;
                        Edges.due(next, x, "gives", thing, shadow, what);
                        next++;
                    }
                }
            }
        }
    }

    /** The last of all 120 ORDERS may be the only one. */
    private static void givesByTheLastOrder() {
        ShadowPool x = Edges.pool("thing a 4 1 1 2;thing b 0 1 1 0;thing c 3 1 1 2;thing d 1 1 1 0;thing e 5 1 1 0;"
                + "lamp 5 2;lamp 3 2;lamp 1 1;lamp 5 0;lamp 0 0;meet b a;meet d a;rule stack;");
        for (int what = 0; what < 5; what++) {
            Edges.due(4 - what, x, "gives", 0, 2, what);
        }
        x.turn(0, 4);
        x.turn(1, 3);
        x.days(1);
        Edges.due(2, x, "thing", 0, 1);
    }

    /** ORDERS and places are tried with all that a DAY does: near, the rule, THIEVES, MEETINGS */
    private static void searchesGoAsDaysGo() {
        // b is nearer than a and gets a's
        ShadowPool x = Edges.pool("thing a 4 1 1 0;thing b 5 1 1 1;lamp 5 9;");
        Edges.due(0, x, "best", 5);
        Edges.due(-2, x, "gives", 0, 0, 0);
        Edges.due(0, x, "gives", 0, 1, 0);
        Edges.due(0, x, "hangs", 0);
        Edges.due(0, x, "hangs", 1);
        Edges.due(2, x, "hangs", 2);
        x.hang(0, 4);
        Edges.due(2, x, "best", 5);
        Edges.due(0, x, "gives", 0, 0, 0);
        Edges.due(-2, x, "hangs", 0);
        x.hang(0, 9);
        Edges.due(0, x, "best", 5);
        Edges.due(0, x, "hangs", 1);
        ShadowPool near = Edges.pool("thing a 4 1 1 0;thing b 5 1 1 1;lamp 5 9;law near 0-far;");
        Edges.due(2, near, "best", 5);
        Edges.due(-2, near, "gives", 0, 1, 0);
        Edges.due(-2, near, "hangs", 2);
        ShadowPool stack = Edges.pool("thing a 4 1 1 0;thing b 5 1 1 1;lamp 5 9;rule stack;");
        Edges.due(2, stack, "best", 5);
        ShadowPool thief = Edges.pool("thing a 4 1 1 1;thing b 5 9 1 0 thief;lamp 4 0;");
        Edges.due(0, thief, "gives", 0, 1, 0);
        Edges.due(0, thief, "best", 5);
        ShadowPool met = Edges.pool("thing a 4 1 1 0;thing b 5 1 1 1;lamp 5 9;meet a b;");
        Edges.due(2, met, "best", 5);
        Edges.due(-2, met, "gives", 0, 1, 0);
    }

    /** "-2: by none, not so many. NONE: no such ones." */
    private static void givesByNone() {
        ShadowPool x = Edges.pool("thing a 0 1 1 1;thing b 9 1 1 0 shy;lamp 0 0;lamp 9 0;");
        for (int what = 0; what < 5; what++) {
            Edges.due(what < 2 ? what : -2, x, "gives", 0, 1, what);
            Edges.due(-2, x, "gives", 0, 0, what);
            Edges.due(-2, x, "gives", 1, 0, what);
        }
        Edges.dueBeyond(-1, x, 0, 4, 2, "gives", 0, 1, 0);
        Edges.dueBeyond(-1, x, 0, 4, 2, "gives", 0, 0, 0);
        Edges.dueBeyond(-1, x, 0, 1, 0, "gives", 0, 1, 0);
        Edges.dueBeyond(-1, x, 0, 1, 1, "gives", 0, 1, 0);
        Edges.due(-1, x, "gives", 2, 2, 5);
        ShadowPool without = Edges.pool("thing a 0 1 1 1 thief;");
        Edges.due(-2, without, "gives", 0, 0, 0);
        Edges.due(-1, without, "gives", 0, 0, 5);
        Edges.due(-1, without, "gives", 0, 1, 0);
    }

    /** "a LAMP and a PLACE 0 .. 29 ... of several the first by LAMPS, PLACES" */
    private static void hangsAtEachPlace() {
        for (int place = 0; place <= 29; place++) {
            for (int reach = 0; reach <= 29; reach++) {
                // the LAMP hangs at the end that is beyond its reach, if there is one
                int from = place - reach > 0 ? 0 : 29;
                if (Math.abs(place - from) <= reach) {
                    continue;
                }
                ShadowPool x = Edges.pool("thing a " + place + " 1 1 1;lamp " + from + " " + reach + ";");
                Edges.due(0, x, "hangs", 0);
                Edges.due(Math.max(0, place - reach), x, "hangs", 1);
                Edges.due(1, x, "hangs", 2);
            }
        }
        // the greatest OWN, not the first that is more
        ShadowPool x = Edges.pool("thing a 3 1 1 0;thing b 6 1 1 1;lamp 29 0;lamp 29 3;");
        Edges.due(1, x, "hangs", 0);
        Edges.due(3, x, "hangs", 1);
        Edges.due(2, x, "hangs", 2);
        // of several LAMPS the first, though it is lit last
        ShadowPool y = Edges.pool("thing a 3 1 1 0;lamp 29 0;lamp 29 0;");
        y.turn(0, 1);
        Edges.due(0, y, "hangs", 0);
        Edges.due(3, y, "hangs", 1);
        // its ORDER as it is: LAMP 0 is lit first, so hung at b it gives b a's
        ShadowPool z = Edges.pool("thing a 0 1 1 0;thing b 9 1 1 1;lamp 29 0;lamp 0 0;");
        Edges.due(-2, z, "hangs", 0);
        z.turn(0, 1);
        Edges.due(0, z, "hangs", 0);
        Edges.due(9, z, "hangs", 1);
        Edges.due(2, z, "hangs", 2);
        Edges.due(29, z, "lamp", 0, 0);
    }

    /** "more than as it goes"; "-2: there is none; NONE for another what" */
    private static void hangsByNone() {
        String[] texts = {"", "lamp 1 1;", "thing a 1 1 1 1;", "thing a 1 1 1 1;lamp 1 0;", "thing a 9 1 1 1 shy;lamp 1 0;", "thing a 9 1 1 1 thief;lamp 1 0;"};
        for (String text : texts) {
            ShadowPool x = Edges.pool(text);
            for (int what = 0; what < 3; what++) {
                Edges.due(-2, x, "hangs", what);
            }
            Edges.dueBeyond(-1, x, 0, 2, 0, "hangs", 0);
        }
        // as many elsewhere (at 1) isn't more
        ShadowPool x = Edges.pool("thing a 0 1 1 0;thing b 9 1 1 1;lamp 0 1;");
        Edges.due(1, x, "best", 5);
        for (int what = 0; what < 3; what++) {
            Edges.due(-2, x, "hangs", what);
        }
        // with five LAMPS; and nothing stays of an older search
        ShadowPool five = Edges.pool("thing a 9 1 1 1;thing b 9 1 1 2;lamp 1 0;lamp 1 0;lamp 1 0;lamp 1 0;lamp 20 0;");
        Edges.due(2, five, "hangs", 2);
        Edges.due(0, five, "hangs", 0);
        Texts.load(five, "thing a 9 1 1 1 shy;lamp 1 0;lamp 1 0;lamp 1 0;lamp 1 0;lamp 20 0;");
        Edges.due(-2, five, "hangs", 2);
        Texts.load(five, "thing a 9 1 1 1;lamp 1 0;");
        Edges.due(1, five, "hangs", 2);
        ShadowPool last = Edges.pool("thing a 9 1 1 1;lamp 1 0;lamp 1 0;lamp 1 0;lamp 1 0;lamp 1 1;thing b 10 1 1 2;");
        Edges.due(4, last, "hangs", 0);
        Edges.due(9, last, "hangs", 1);
        Edges.due(2, last, "hangs", 2);
        ShadowPool some = Edges.pool("thing a 9 1 1 1;lamp 1 0;");
        Edges.dueBeyond(-1, some, 0, 2, 0, "hangs", 0);
    }

    private static String line(int things) {
        StringBuilder s = new StringBuilder();
        for (int i = 0; i < things; i++) {
            s.append("thing ").append((char) ('a' + i)).append(" 1 1 1 1;");
        }
        for (int i = 1; i < things; i++) {
            s.append("meet ").append((char) ('a' + i)).append(' ').append((char) ('a' + i - 1)).append(';');
        }
        return s.toString();
    }

    /** "-2: there are no so many, by none; NONE: k is below 0" */
    private static void swapsOfNone() {
        ShadowPool x = Edges.pool(line(3));
        Edges.due(0, x, "swaps");
        Edges.due(-2, x, "swap", 0);
        Edges.due(-2, x, "swap", Edges.GREATEST);
        Edges.due(-1, x, "swap", -1);
        Edges.due(-1, x, "swap", Edges.LEAST);
        // all at the WALL: nobody has one that isn't its own
        x.days(1);
        Edges.due(0, x, "swaps");
        Edges.due(-2, x, "swap", 0);
        // two who don't meet have each other's
        ShadowPool y = Edges.pool("thing a 1 1 1 1;thing b 1 1 1 1;");
        Edges.due(0, y, "swaps");
        y.trade(0, 1);
        Edges.due(-2, y, "swaps");
    }

    /** "the fewest swaps ... of several the first by MEETINGS, one behind another" */
    private static void swapsOfMany() {
        ShadowPool x = Edges.pool(line(5));
        x.trade(0, 4);
        x.trade(1, 3);
        // five in a row turned round: ten swaps of neighbours
        Edges.due(10, x, "swaps");
        int[] first = {1, 12, 1, 23, 12, 1, 34, 23, 12, 1};
        for (int k = 0; k < 10; k++) {
            Edges.due(first[k], x, "swap", k);
        }
        for (int k : new int[] {10, 11, 119, 120, 121, 1000, Edges.GREATEST}) {
            Edges.due(-2, x, "swap", k);
        }
        for (int k : new int[] {-1, -2, -120, Edges.LEAST}) {
            Edges.due(-1, x, "swap", k);
        }
        for (int k = 0; k < 10; k++) {
            x.trade(x.swap(0) / 10, x.swap(0) % 10);
            Edges.due(9 - k, x, "swaps");
        }
        Edges.due(5, x, "own");
        // nothing stays of an older search
        x.trade(0, 4);
        x.trade(1, 3);
        Edges.due(10, x, "swaps");
        for (int i = 1; i < 5; i++) {
            x.meet(i, i - 1, false);
            Edges.due(-2, x, "swaps");
            Edges.due(-2, x, "swap", 0);
        }
        x.meet(0, 4, true);
        Edges.due(-2, x, "swaps");
        x.trade(1, 3);
        Edges.due(1, x, "swaps");
        ShadowPool two = Edges.pool(line(2));
        two.trade(0, 1);
        Edges.due(1, two, "swaps");
        two.meet(0, 1, false);
        Edges.due(-2, two, "swaps");
        // one swap of two who meet is fewer, though it is the last MEETING; the lesser number first
        ShadowPool y = Edges.pool(line(5) + "meet e a;");
        y.trade(0, 4);
        Edges.due(1, y, "swaps");
        Edges.due(4, y, "swap", 0);
        ShadowPool z = Edges.pool("thing a 1 1 1 1;thing b 1 1 1 1;thing c 1 1 1 1;thing d 1 1 1 1;thing e 1 1 1 1;meet e d;");
        z.trade(3, 4);
        Edges.due(34, z, "swap", 0);
    }

    /** "swaps of what two who MEET have (nothing, too) ... by which all THINGS that have a SHADOW have their own"; "-2: by none" */
    private static void swapsByNone() {
        ShadowPool x = Edges.pool(line(4));
        x.meet(1, 2, false);
        x.trade(0, 1);
        x.trade(2, 3);
        Edges.due(2, x, "swaps");
        x.trade(1, 2);
        Edges.due(-2, x, "swaps");
        Edges.due(-2, x, "swap", 0);
        Edges.due(-2, x, "swap", Edges.GREATEST);
        Edges.due(-1, x, "swap", -1);
        Edges.due(-1, x, "swap", Edges.LEAST);
        // a alone has one, d's, and they are three MEETINGS apart
        ShadowPool y = Edges.pool("thing a 1 1 1 1;thing b 9 1 1 2 shy;thing c 9 1 1 3 shy;thing d 9 1 1 0 shy;lamp 1 0;");
        y.days(1);
        Edges.due(3, y, "thing", 0, 1);
        Edges.due(-2, y, "swaps");
        y.meet(2, 3, true);
        y.meet(1, 2, true);
        Edges.due(-2, y, "swaps");
        y.meet(0, 1, true);
        Edges.due(3, y, "swaps");
        Edges.due(1, y, "swap", 0);
        Edges.due(12, y, "swap", 1);
        Edges.due(23, y, "swap", 2);
        Edges.due(-2, y, "swap", 3);
    }

    private static int place(boolean[][] cells, int top, int left, boolean mirrored, int right) {
        int bits = 0;
        for (int row = top; row < 3; row++) {
            for (int column = left; column <= right; column++) {
                if (cells[row][column]) {
                    int at = mirrored ? right - column : column - left;
                    bits |= 256 >> 3 * (row - top) + at;
                }
            }
        }
        return bits;
    }

    private static int lookOf(int shape) {
        boolean[][] cells = new boolean[3][3];
        int top = 3;
        int left = 3;
        int right = -1;
        for (int i = 0; i < 9; i++) {
            if ((shape & 256 >> i) != 0) {
                cells[i / 3][i % 3] = true;
                top = Math.min(top, i / 3);
                left = Math.min(left, i % 3);
                right = Math.max(right, i % 3);
            }
        }
        return Math.min(place(cells, top, left, false, right), place(cells, top, left, true, right));
    }

    /** LOOK of each SHAPE 0 .. 511; "(0 of no cells)"; "SHADOWS (bits) of the LOOK of a SHAPE 0 .. 511; NONE: no such one" */
    private static void looksOfAllShapes() {
        ShadowPool some = Edges.pool("thing a 1 1 1 1;thing b 1 1 0 1;thing c 1 1 511 1;thing d 1 1 7 1;thing e 1 1 73 1;");
        int[] looks = {256, 0, 511, 448, 292};
        for (int shape = 0; shape <= 511; shape++) {
            ShadowPool x = Edges.pool("thing a 1 1 " + shape + " 1;");
            int look = lookOf(shape);
            Edges.due(look, x, "look", 0);
            Edges.due(1, x, "whose", shape);
            Edges.due(1, x, "whose", look);
            int bits = 0;
            for (int i = 0; i < 5; i++) {
                bits |= looks[i] == look ? 1 << i : 0;
            }
            Edges.is("whose(" + shape + ")", bits, some.whose(shape));
        }
        Edges.dueBeyond(-1, some, 0, 511, 0, "whose", 0);
        Edges.due(-1, new ShadowPool(), "whose", -1);
        Edges.due(0, new ShadowPool(), "whose", 511);
        for (int i = 0; i < 5; i++) {
            Edges.due(looks[i], some, "look", i);
        }
        Edges.dueBeyond(-1, some, 0, 4, 0, "look", 0);
        Edges.dueBeyond(-1, Edges.pool("thing a 1 1 1 1;"), 0, 0, 0, "look", 0);
    }

    /** "ALIKE ones (bits, itself too); NONE: no such SHADOW"; "SORTS: how many unlike LOOKS there are" */
    private static void alikeAndSorts() {
        ShadowPool x = Edges.pool("thing a 1 1 1 1;thing b 1 1 0 1;thing c 1 1 256 1;thing d 1 1 0 1;thing e 1 1 16 1;");
        int[] due = {21, 10, 21, 10, 21};
        for (int i = 0; i < 5; i++) {
            Edges.due(due[i], x, "alike", i);
        }
        Edges.due(2, x, "sorts");
        Edges.dueBeyond(-1, x, 0, 4, 0, "alike", 0);
        Edges.dueBeyond(-1, Edges.pool("thing a 1 1 1 1;"), 0, 0, 0, "alike", 0);
        String[] shapes = {"1", "3", "7", "9", "511"};
        StringBuilder text = new StringBuilder();
        for (int i = 0; i < 5; i++) {
            Edges.is("sorts of " + i, i, Edges.pool(text.toString()).sorts());
            text.append("thing ").append((char) ('a' + i)).append(" 1 1 ").append(shapes[i]).append(" 1;");
        }
        ShadowPool all = Edges.pool(text.toString());
        Edges.due(5, all, "sorts");
        for (int i = 0; i < 5; i++) {
            Edges.due(1 << i, all, "alike", i);
        }
        Edges.is("all alike", 1, Edges.pool("thing a 1 1 1 1;thing b 1 1 2 1;thing c 1 1 256 1;thing d 1 1 64 1;thing e 1 1 16 1;").sorts());
    }

    /** "SEEN, at most 24, numbered from 0 on: behind so many DAYS 1 .. 20"; "NONE: no such ones, or there are 24" */
    private static void seeUpToItsBounds() {
        ShadowPool x = Edges.pool(TURNS);
        Edges.dueBeyond(-1, x, 1, 20, 0, "see", 1, 0, 0);
        Edges.due(-1, x, "see", 0, 0, 0);
        Edges.dueBeyond(-1, x, 0, 1, 1, "see", 1, 0, 0);
        Edges.dueBeyond(-1, x, 0, 511, 2, "see", 1, 0, 0);
        Edges.due(0, x, "count", 7);
        Edges.due(0, x, "see", 1, 0, 0);
        Edges.due(1, x, "see", 20, 1, 511);
        Edges.due(2, x, "see", 1, 0, 0);
        for (int i = 3; i < 24; i++) {
            Edges.due(i, x, i % 2 == 0 ? "see" : "strike", i % 2 == 0 ? new Object[] {i % 20 + 1, i % 2, i} : new Object[] {i - 1});
            Edges.due(i + 1, x, "count", 7);
        }
        Edges.due(-1, x, "see", 1, 0, 0);
        Edges.due(-1, x, "see", 20, 1, 511);
        Edges.due(-1, x, "strike", 0);
        Edges.due(-1, x, "strike", 23);
        Edges.due(24, x, "count", 7);
        Edges.due(24, x, "count", 8);
    }

    /** "A STRIKE: its number; NONE: no such one SEEN" */
    private static void strikeOfOneSeen() {
        ShadowPool x = Edges.pool(TURNS);
        for (int seen : new int[] {-1, 0, 1, Edges.LEAST, Edges.GREATEST}) {
            Edges.due(-1, x, "strike", seen);
        }
        x.see(1, 0, 0);
        Edges.dueBeyond(-1, x, 0, 0, 0, "strike", 0);
        Edges.due(1, x, "strike", 0);
        // the same one again, and a STRIKE
        Edges.due(2, x, "strike", 0);
        Edges.due(3, x, "strike", 2);
        Edges.dueBeyond(-1, x, 0, 3, 0, "strike", 0);
        Edges.due(4, x, "count", 7);
    }

    /** "KNOWN by n from now on (-1: by all, also those to come): true; false: no such n" */
    private static void knownByHowMany() {
        ShadowPool x = Edges.pool(TURNS);
        Edges.dueBeyond(false, x, -1, 0, 0, "known", 0);
        for (int seen = 1; seen <= 24; seen++) {
            x.see(1, 0, seen < 24 ? 7 : 0);
            Edges.due(seen, x, "count", 8);
            Edges.due(false, x, "known", seen + 1);
            Edges.due(false, x, "known", -2);
            Edges.due(seen, x, "count", 8);
        }
        Edges.dueBeyond(false, x, -1, 24, 0, "known", 0);
        Edges.due(0, x, "rules");
        for (int n = 0; n <= 24; n++) {
            Edges.due(true, x, "known", n);
            Edges.due(n, x, "count", 8);
            Edges.due(n == 0 ? 7 : n < 24 ? 5 : 0, x, "rules");
        }
        Edges.due(true, x, "known", -1);
        Edges.due(0, x, "rules");
        ShadowPool y = Edges.pool(TURNS);
        y.see(1, 0, 7);
        y.known(1);
        y.see(1, 0, 0);
        // what comes behind isn't KNOWN by one
        Edges.due(1, y, "count", 8);
        Edges.due(5, y, "rules");
        y.known(-1);
        Edges.due(0, y, "rules");
        y.strike(1);
        // but by all, those to come too
        Edges.due(3, y, "count", 8);
        Edges.due(5, y, "rules");
    }

    /** "the first n that aren't STRUCK by one of these (a STRIKE may be STRUCK: then it doesn't count; asked from the last one on)" */
    private static void strikesOfStrikes() {
        ShadowPool x = Edges.pool(TURNS);
        x.see(1, 0, 0);
        // 0 can't be; 1 strikes 0, 2 strikes 1, and so on: 0 counts by an odd number of them all
        for (int i = 1; i < 24; i++) {
            Edges.due(i, x, "strike", i - 1);
        }
        for (int n = 1; n <= 24; n++) {
            x.known(n);
            Edges.due(n % 2 == 1 ? 0 : 7, x, "rules");
        }
        ShadowPool y = Edges.pool(TURNS);
        y.see(1, 0, 0);
        y.strike(0);
        y.strike(0);
        y.strike(1);
        // struck by two, one of which is struck
        Edges.due(7, y, "rules");
        y.strike(2);
        Edges.due(0, y, "rules");
        // by one alone the STRIKES behind it don't count
        y.known(1);
        Edges.due(0, y, "rules");
        y.known(2);
        Edges.due(7, y, "rules");
    }

    /** "behind so many DAYS 1 .. 20 (as it goes from the TEXT on) a THING had a SHADOW of the LOOK of a told SHAPE" */
    private static void rulesByDays() {
        for (int days = 1; days <= 20; days++) {
            ShadowPool x = Edges.pool(TURNS);
            // by queue, and by fit as the sizes are like: b's behind odd days; by stack always its own
            x.see(days, 0, 7);
            Edges.due(days % 2 == 1 ? 5 : 0, x, "rules");
            ShadowPool y = Edges.pool(TURNS);
            y.see(days, 0, 1);
            Edges.due(days % 2 == 1 ? 2 : 7, y, "rules");
            // b has none ever: of no LOOK, not even that of no cells
            ShadowPool z = Edges.pool(TURNS);
            z.see(days, 1, 0);
            Edges.due(0, z, "rules");
        }
        // each of two THINGS by itself: by queue and fit they have each other's, by stack their own
        int[][] had = {{0, 7, 5}, {0, 1, 2}, {1, 1, 5}, {1, 7, 2}, {0, 511, 0}, {1, 511, 0}};
        for (int[] each : had) {
            ShadowPool two = Edges.pool("thing a 0 5 256 1;thing b 1 5 7 0;lamp 0 9;");
            two.see(1, each[0], each[1]);
            Edges.due(each[2], two, "rules");
        }
        ShadowPool all = Edges.pool("thing a 0 5 256 0;lamp 0 0;");
        for (int days = 1; days <= 20; days++) {
            all.see(days, 0, 16);
        }
        Edges.due(7, all, "rules");
        Edges.due(7, Edges.pool(""), "rules");
        // the LOOK of no cells is one too
        ShadowPool empty = Edges.pool("thing a 0 5 0 0;lamp 0 0;");
        empty.see(1, 0, 0);
        Edges.due(7, empty, "rules");
        empty.see(1, 0, 1);
        Edges.due(0, empty, "rules");
    }

    /** "from the TEXT on ... in place of the told one" */
    private static void rulesFromTheText() {
        for (String rule : new String[] {"", "rule queue;", "rule stack;", "rule fit;"}) {
            ShadowPool x = Edges.pool(TURNS + rule + "fog 100;");
            x.see(1, 0, 7);
            Edges.due(5, x, "rules");
            x.days(3);
            x.hang(0, 20);
            x.trade(0, 1);
            x.meet(0, 1, true);
            Edges.due(5, x, "rules");
            Edges.due(rule.contains("stack") ? 1 : rule.contains("fit") ? 2 : 0, x, "count", 3);
        }
    }

    /** "A REST: neither would have more by another one"; "-2: there are no so many; NONE likewise, k is below 0" */
    private static void restsFromNoneToAll() {
        // c comes at 0: whoever of a and b is ahead of it, one of the two would rather come otherwise
        ShadowPool none = Edges.pool("thing a 0 8 1 2;thing b 3 9 1 3;thing c 3 2 1 0;lamp 1 9;");
        Edges.due(0, none, "rests", 0, 1);
        Edges.due(-2, none, "rest", 0, 1, 0);
        Edges.due(-2, none, "rest", 0, 1, Edges.GREATEST);
        Edges.due(-1, none, "rest", 0, 1, -1);
        // without LAMPS all are alike
        ShadowPool all = Edges.pool("thing a 0 8 1 9;thing b 3 9 1 9;");
        Edges.due(25, all, "rests", 0, 1);
        for (int k = 0; k < 25; k++) {
            Edges.due(k / 5 * 10 + k % 5, all, "rest", 0, 1, k);
        }
        for (int k : new int[] {25, 26, 99, 120, Edges.GREATEST}) {
            Edges.due(-2, all, "rest", 0, 1, k);
        }
        for (int k : new int[] {-1, -2, -25, Edges.LEAST}) {
            Edges.due(-1, all, "rest", 0, 1, k);
        }
        Edges.due(9, all, "thing", 0, 4);
        // a gets the row's first: it has 9 where b comes ahead of it; b has none anyhow
        ShadowPool some = Edges.pool("thing a 0 1 1 9;thing b 9 9 1 9;lamp 0 0;");
        Edges.due(15, some, "rests", 0, 1);
        Edges.due(4, some, "rest", 0, 1, 0);
        Edges.due(10, some, "rest", 0, 1, 1);
        Edges.due(14, some, "rest", 0, 1, 2);
        Edges.due(44, some, "rest", 0, 1, 14);
        Edges.due(-2, some, "rest", 0, 1, 15);
        // the other way round b's comes first
        Edges.due(15, some, "rests", 1, 0);
        Edges.due(1, some, "rest", 1, 0, 0);
        Edges.due(44, some, "rest", 1, 0, 14);
    }

    /** "NONE: no such ones, alike" */
    private static void restsOfTwoAlike() {
        ShadowPool x = Edges.pool("thing a 0 8 1 9;thing b 3 9 1 9;thing c 3 9 1 9;");
        for (int thing = 0; thing < 5; thing++) {
            Edges.due(-1, x, "rests", thing, thing);
            Edges.due(-1, x, "rest", thing, thing, 0);
            Edges.due(-1, x, "rest", thing, thing, 25);
        }
        for (int thing = 0; thing < 3; thing++) {
            Edges.dueBeyond(-1, x, 0, 2, 0, "rests", 0, thing);
            Edges.dueBeyond(-1, x, 0, 2, 1, "rests", thing, 0);
            Edges.dueBeyond(-1, x, 0, 2, 0, "rest", 0, thing, 0);
            Edges.dueBeyond(-1, x, 0, 2, 1, "rest", thing, 0, 0);
            Edges.dueBeyond(-1, x, 0, 2, 1, "rest", thing, 0, 25);
        }
        Edges.due(25, x, "rests", 2, 1);
    }

    private static void duePrice(int due, String expression) {
        ShadowPool x = Edges.pool("thing a 0 8 1 9;law price " + expression + ";");
        Edges.is("price of " + expression, due, x.price(0));
        Edges.is("season of " + expression, due, x.season(0, 1, 1));
    }

    /** "E of price (0 .. 999; SIZE without, with an ERROR; of what it has now)"; "NONE: no such THING" */
    private static void priceUpToItsBounds() {
        duePrice(0, "0");
        duePrice(1, "1");
        duePrice(0, "0-1");
        duePrice(0, "0-9999");
        duePrice(0, "0-5000*5000*5000*8");
        duePrice(998, "998");
        duePrice(999, "999");
        duePrice(999, "1000");
        duePrice(999, "9999");
        duePrice(999, "4096*4096*256");
        duePrice(999, "5000*5000*5000*8");
        duePrice(8, "5000*5000*5000*8+1");
        duePrice(8, "0-5000*5000*5000*8-1");
        duePrice(8, "1/0");
        duePrice(16, "size*2");
        ShadowPool x = Edges.pool("thing a 0 8 1 9;thing b 0 1 1 9;");
        Edges.due(8, x, "price", 0);
        Edges.due(1, x, "price", 1);
        x.trade(0, 1);
        Edges.due(1, x, "price", 0);
        x.days(1);
        Edges.due(0, x, "price", 0);
        Edges.dueBeyond(-1, x, 0, 1, 0, "price", 0);
        Edges.due(-1, new ShadowPool(), "price", 0);
        // with an ERROR and none
        ShadowPool y = Edges.pool("thing a 0 8 1 9;law price 5/size;");
        Edges.due(0, y, "price", 0);
        y.days(1);
        Edges.due(0, y, "price", 0);
    }

    /** "SEASON (n 1 .. 20), what 0: the DAY, 1: PRICE. NONE: no such ones." */
    private static void seasonUpToTwentyDays() {
        ShadowPool x = Edges.pool("thing a 0 8 1 9;law price 10+day;");
        for (int n = 1; n <= 20; n++) {
            Edges.due(n - 1, x, "season", 0, n, 0);
            Edges.due(9 + n, x, "season", 0, n, 1);
        }
        for (int what = 0; what < 2; what++) {
            Edges.dueBeyond(-1, x, 1, 20, 1, "season", 0, 1, what);
            Edges.due(-1, x, "season", 0, 0, what);
            Edges.dueBeyond(-1, x, 0, 0, 0, "season", 0, 1, what);
        }
        Edges.dueBeyond(-1, x, 0, 1, 2, "season", 0, 1, 0);
        x.days(7);
        Edges.due(7, x, "season", 0, 1, 0);
        Edges.due(26, x, "season", 0, 20, 0);
        Edges.due(36, x, "season", 0, 20, 1);
        Edges.due(7, x, "count", 5);
    }

    /** "on which PRICE (as it goes, ahead of dusk) is greatest, of several the first" */
    private static void seasonTheFirstOfSeveral() {
        ShadowPool same = Edges.pool("thing a 0 8 1 9;law price 5;");
        Edges.due(0, same, "season", 0, 20, 0);
        Edges.due(5, same, "season", 0, 20, 1);
        ShadowPool none = Edges.pool("thing a 0 8 1 9;law price 0;");
        Edges.due(0, none, "season", 0, 20, 0);
        Edges.due(0, none, "season", 0, 20, 1);
        // 999 on day 3 already, as no PRICE is above that
        ShadowPool most = Edges.pool("thing a 0 8 1 9;law price 333*day;");
        Edges.due(3, most, "season", 0, 20, 0);
        Edges.due(999, most, "season", 0, 20, 1);
        ShadowPool least = Edges.pool("thing a 0 8 1 9;law price 0-5+day;");
        Edges.due(0, least, "season", 0, 5, 0);
        Edges.due(0, least, "season", 0, 6, 0);
        Edges.due(6, least, "season", 0, 7, 0);
        // ahead of dusk: today it has its own 1; behind today b's 9, behind tomorrow its own
        ShadowPool turns = Edges.pool("thing a 0 1 1 1;thing b 9 9 1 0;lamp 0 0;fog 100;");
        Edges.due(0, turns, "season", 0, 1, 0);
        Edges.due(1, turns, "season", 0, 1, 1);
        Edges.due(1, turns, "season", 0, 2, 0);
        Edges.due(9, turns, "season", 0, 2, 1);
        Edges.due(1, turns, "season", 0, 20, 0);
        Edges.due(0, turns, "season", 1, 20, 0);
        Edges.due(9, turns, "season", 1, 20, 1);
    }

    private static void dueWhole(int above, int below, ShadowPool x, int thing, int n) {
        Edges.due(above, x, "whole", thing, n, 0);
        Edges.due(below, x, "whole", thing, n, 1);
    }

    /** "WHOLE in least terms, what 0: the number above, 1: the one below." */
    private static void wholeInLeastTerms() {
        String lit = "thing a 0 5 256 1;lamp 0 0;";
        for (int odds = 0; odds <= 100; odds++) {
            ShadowPool x = Edges.pool(lit + "fog " + odds + ";");
            int divisor = java.math.BigInteger.valueOf(100 - odds).gcd(java.math.BigInteger.valueOf(100)).intValue();
            for (int n = 1; n <= 4; n++) {
                dueWhole((100 - odds) / divisor, 100 / divisor, x, 0, n);
            }
        }
        for (int n = 1; n <= 4; n++) {
            dueWhole(1, 1, Edges.pool(lit), 0, n);
            dueWhole(1, 1, Edges.pool(lit + "fog 0;"), 0, n);
            dueWhole(0, 1, Edges.pool(lit + "fog 100;"), 0, n);
            dueWhole(0, 1, Edges.pool("thing a 0 5 256 1 shy;fog 50;"), 0, n);
            dueWhole(n % 2 == 0 ? 1 : 0, 1, Edges.pool(TURNS), 0, n);
        }
    }

    /** "for n DAYS 1 .. 4 ... over all ways of fog, exactly" */
    private static void wholeUpToFourDays() {
        // a has its own behind an even number of clear days, the last of which is the last day
        ShadowPool x = Edges.pool(TURNS + "fog 1;");
        dueWhole(0, 1, x, 0, 1);
        dueWhole(9801, 10000, x, 0, 2);
        // clear, fog, clear or fog, clear, clear: 2 * 99 * 99 of 100 to the 3
        dueWhole(9801, 500000, x, 0, 3);
        // 99 * (99 * 99 * 99 + 3 * 99) of 100 to the 4
        dueWhole(24022251, 25000000, x, 0, 4);
        dueWhole(0, 1, x, 1, 4);
        for (int what = 0; what < 2; what++) {
            Edges.dueBeyond(-1, x, 1, 4, 1, "whole", 0, 1, what);
            Edges.due(-1, x, "whole", 0, 0, what);
            Edges.dueBeyond(-1, x, 0, 1, 0, "whole", 0, 1, what);
        }
        Edges.dueBeyond(-1, x, 0, 1, 2, "whole", 0, 1, 0);
        ShadowPool y = Edges.pool(TURNS + "fog 99;");
        // 1 * (1 + 3 * 99 * 99) of 100 to the 4
        dueWhole(29404 / 4, 25000000, y, 0, 4);
    }

    private static int drawnClear(int seed, int n, int odds) {
        long number = seed;
        int times = 0;
        for (int i = 0; i < 10; i++) {
            boolean clear = false;
            for (int day = 0; day < n; day++) {
                number = (number * 1103515245L + 12345L) % (1L << 31);
                clear = number / 65536 % 100 >= odds;
            }
            times += clear ? 1 : 0;
        }
        return times;
    }

    /** "a seed 0 .. 2147483647 ... n 1 .. 20 DAYS ... a bound 0 .. 5 then; NONE: no such ones" */
    private static void chanceUpToItsBounds() {
        ShadowPool x = Edges.pool("thing a 0 5 256 1;lamp 0 0;fog 50;seed 3;");
        for (int seed : new int[] {0, 1, 99999, 100000, 2147483646, 2147483647}) {
            for (int n : new int[] {1, 2, 19, 20}) {
                Edges.due(10, x, "chance", seed, n, 0);
                Edges.due(drawnClear(seed, n, 50), x, "chance", seed, n, 1);
                Edges.due(0, x, "chance", seed, n, 2);
                Edges.due(0, x, "chance", seed, n, 5);
            }
        }
        for (int seed : new int[] {-1, -2, Edges.LEAST, Edges.LEAST + 1}) {
            Edges.due(-1, x, "chance", seed, 1, 0);
        }
        Edges.dueBeyond(-1, x, 1, 20, 1, "chance", 0, 1, 0);
        Edges.due(-1, x, "chance", 0, 0, 0);
        Edges.dueBeyond(-1, x, 0, 5, 2, "chance", 0, 1, 0);
        ShadowPool all = Edges.pool(fiveAlone(new int[] {0, 1, 2, 3, 4}));
        Edges.due(10, all, "chance", 7, 20, 5);
        Edges.due(-1, all, "chance", 7, 20, 6);
        Edges.due(10, new ShadowPool(), "chance", 7, 20, 0);
        Edges.due(0, new ShadowPool(), "chance", 7, 20, 1);
    }

    /** "numbers from a seed 0 .. 2147483647 on, one behind another"; from now; nothing of it stays */
    private static void chanceGoesOnWithItsNumbers() {
        ShadowPool x = Edges.pool("thing a 0 5 256 1;lamp 0 0;fog 30;seed 3;");
        ShadowPool plain = Edges.pool("thing a 0 5 256 1;lamp 0 0;fog 30;seed 3;");
        for (int seed = 0; seed < 40; seed++) {
            Edges.due(drawnClear(seed, 1, 30), x, "chance", seed, 1, 1);
            Edges.due(drawnClear(seed, 3, 30), x, "chance", seed, 3, 1);
            x.days(1);
            plain.days(1);
            Edges.is("the days' own numbers go on", plain.own(), x.own());
        }
        // always and never fog
        Edges.due(0, Edges.pool("thing a 0 5 256 1;lamp 0 0;fog 100;"), "chance", 1, 1, 1);
        Edges.due(10, Edges.pool("thing a 0 5 256 1;lamp 0 0;"), "chance", 1, 1, 1);
    }

    /** "TRIED (n 0 .. 20); NONE: no such ones (i 0 of 0, 1, 2)" */
    private static void triedUpToItsBounds() {
        ShadowPool x = Edges.pool("thing a 0 1 1 1;thing b 1 1 1 0;lamp 0 1;lamp 9 0;lamp 9 0;meet b a;");
        for (int what = 0; what < 3; what++) {
            Edges.dueBeyond(-1, x, 0, 0, 1, "tried", what, 0, 1);
            Edges.dueBeyond(-1, x, 0, 20, 2, "tried", what, 0, 0);
            Edges.due(2, x, "tried", what, 0, 0);
            Edges.is("20 days", true, x.tried(what, 0, 20) >= 0);
        }
        Edges.dueBeyond(-1, x, 0, 1, 1, "tried", 3, 0, 1);
        Edges.dueBeyond(-1, x, 0, 2, 1, "tried", 4, 0, 1);
        for (int what = 3; what < 5; what++) {
            Edges.dueBeyond(-1, x, 0, 20, 2, "tried", what, 1, 0);
            Edges.due(2, x, "tried", what, 1, 0);
            Edges.is("20 days", true, x.tried(what, 1, 20) >= 0);
        }
        Edges.due(2, x, "tried", 4, 2, 1);
        Edges.dueBeyond(-1, x, 0, 4, 0, "tried", 0, 0, 1);
        Edges.due(-1, new ShadowPool(), "tried", 3, 0, 0);
        Edges.due(-1, new ShadowPool(), "tried", 4, 0, 0);
        Edges.due(0, new ShadowPool(), "tried", 2, 0, 20);
    }

    /** "0 no MEETINGS, 1 all LAMPS have REACH 29, 2 nobody is SHY, 3 THING i is a THIEF, 4 LAMP i isn't there: OWN then" */
    private static void triedEachWay() {
        // the row is 1 0, so by the LAMP a gets b's, b a's; the MEETING mends it
        ShadowPool met = Edges.pool("thing a 0 1 1 1;thing b 1 1 1 0;lamp 0 1;meet b a;");
        Edges.due(0, met, "tried", 0, 0, 1);
        Edges.due(2, met, "tried", 1, 0, 1);
        Edges.due(1, met, "count", 2);
        // a 29 far from its LAMP
        ShadowPool far = Edges.pool("thing a 29 1 1 1;lamp 0 28;");
        Edges.due(0, far, "tried", 0, 0, 1);
        Edges.due(1, far, "tried", 1, 0, 1);
        Edges.due(1, far, "tried", 1, 0, 20);
        Edges.due(28, far, "lamp", 0, 1);
        ShadowPool shy = Edges.pool("thing a 0 1 1 1 shy;thing b 0 1 1 2 shy;thing c 0 1 1 3 thief;lamp 0 0;");
        Edges.due(0, shy, "tried", 0, 0, 1);
        // a THIEF stays one
        Edges.due(3, shy, "tried", 2, 0, 1);
        Edges.due(2, shy, "thing", 0, 5);
        // who isn't SHY any more is no THIEF: beyond the LAMP's reach it gets none
        Edges.due(0, Edges.pool("thing a 9 1 1 1 shy;lamp 0 0;"), "tried", 2, 0, 1);
        ShadowPool thief = Edges.pool("thing a 0 1 1 1;thing b 0 9 1 2 shy;thing c 9 5 1 0;lamp 1 1;");
        // a alone gets c's; as a THIEF it takes b's; b as a THIEF takes its own; c as a THIEF takes b's
        Edges.due(0, thief, "tried", 0, 0, 1);
        Edges.due(0, thief, "tried", 3, 0, 1);
        Edges.due(1, thief, "tried", 3, 1, 1);
        Edges.due(0, thief, "tried", 3, 2, 1);
        Edges.due(0, thief, "thing", 0, 5);
        // NAMES as they are tried: kind, which
        ShadowPool kind = Edges.pool("thing a 1 1 1 1 shy;thing b 1 1 1 0;lamp 1 1;law late kind;law near kind;");
        Edges.due(2, kind, "tried", 2, 0, 1);
        // without LAMP 0 the other one is still which 1
        ShadowPool which = Edges.pool("thing a 2 1 1 0;thing b 1 1 1 1;lamp 1 0;lamp 1 1;law near far*(1-2*which);");
        Edges.due(2, which, "tried", 4, 0, 1);
        Edges.due(0, which, "tried", 0, 0, 1);
        // without the LAMP lit first, in its ORDER as it is now
        ShadowPool order = Edges.pool("thing a 0 1 1 1;thing b 9 1 1 0;lamp 0 0;lamp 9 0;lamp 0 0;");
        Edges.due(0, order, "tried", 4, 1, 1);
        Edges.due(0, order, "tried", 4, 2, 1);
        Edges.due(2, order, "tried", 4, 0, 1);
        Edges.due(0, order, "lamp", 0, 2);
        Edges.due(3, order, "count", 1);
        // of five LAMPS each one may be gone, wherever it is lit
        ShadowPool five = Edges.pool(fiveAlone(new int[] {0, 1, 2, 3, 4}));
        for (int lamp = 0; lamp < 5; lamp++) {
            // those ahead of it have their own; whoever is behind gets the next one's
            Edges.due(lamp, five, "tried", 4, lamp, 1);
        }
    }
}
