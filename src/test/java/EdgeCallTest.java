/** Each sentence on what is asked of THINGS, LAMPS, the WALL, on deeds, IMAGES and counts that names a bound (promises 6 to 14, 37 to 40). */
public final class EdgeCallTest {
    private static final String THREE = "thing a 1 2 3 4;thing b 5 6 7 8 thief;thing c 9 1 2 3 shy;lamp 10 11;lamp 12 13;lamp 14 15;meet a b;meet b c;";

    public static void main(String[] args) {
        thingOfNone();
        lampOfNone();
        wallOfNone();
        lawOfNone();
        hangWhereItDoes();
        turnAlike();
        tradeOfNothing();
        meetAsItIs();
        meetBehindAllOthers();
        meetTen();
        meetsEitherWay();
        undoTheLatestFirst();
        undoTwentyAtMost();
        undoUntilADayGoesBy();
        undoEachKind();
        imageOfNone();
        imageKeepsAll();
        imageInPlaceOfOneAhead();
        backLeavesNothingToUndo();
        backLeavesWhatWasSeen();
        countsOfNone();
        countsAtTheirMost();
        Edges.end();
    }

    /** "IndexOutOfBoundsException: no such THING. NoSuchElementException: no such what." */
    private static void thingOfNone() {
        ShadowPool x = Edges.pool(THREE);
        int[][] of = {{1, 0, 2, 3, 4, 0}, {5, 1, 6, 7, 8, 1}, {9, 2, 1, 2, 3, 2}};
        for (int thing = 0; thing < 3; thing++) {
            for (int what = 0; what < 6; what++) {
                Edges.due(of[thing][what], x, "thing", thing, what);
            }
            Edges.dueBeyond(Edges.NO_WHAT, x, 0, 5, 1, "thing", thing, 0);
        }
        for (int what = 0; what < 6; what++) {
            Edges.dueBeyond(Edges.NO_THING, x, 0, 2, 0, "thing", 0, what);
        }
        // both: the THING is looked at first
        Edges.dueBeyond(Edges.NO_THING, x, 0, 2, 0, "thing", 0, 6);
        Edges.dueBeyond(Edges.NO_THING, x, 0, 2, 0, "thing", 0, -1);
        ShadowPool five = Edges.pool("thing a 1 1 1 1;thing b 1 1 1 1;thing c 1 1 1 1;thing d 1 1 1 1;thing e 8 1 1 1;");
        Edges.due(8, five, "thing", 4, 0);
        Edges.dueBeyond(Edges.NO_THING, five, 0, 4, 0, "thing", 0, 0);
        x.days(1);
        Edges.due(-1, x, "thing", 2, 1);
        Texts.load(x, "thing a 1 1 1 1;");
        Edges.due(Edges.NO_THING, x, "thing", 1, 0);
    }

    /** "what 0 PLACE, 1 REACH, 2 the how-manieth it is lit (0 up). NONE: no such ones." */
    private static void lampOfNone() {
        ShadowPool x = Edges.pool(THREE);
        for (int lamp = 0; lamp < 3; lamp++) {
            Edges.due(10 + 2 * lamp, x, "lamp", lamp, 0);
            Edges.due(11 + 2 * lamp, x, "lamp", lamp, 1);
            Edges.due(lamp, x, "lamp", lamp, 2);
            Edges.dueBeyond(-1, x, 0, 2, 1, "lamp", lamp, 0);
        }
        for (int what = 0; what < 3; what++) {
            Edges.dueBeyond(-1, x, 0, 2, 0, "lamp", 0, what);
        }
        Edges.due(-1, x, "lamp", 3, 3);
        ShadowPool five = Edges.pool("lamp 1 1;lamp 1 1;lamp 1 1;lamp 1 1;lamp 7 1;");
        Edges.due(7, five, "lamp", 4, 0);
        Edges.due(4, five, "lamp", 4, 2);
        Edges.due(-1, five, "lamp", 5, 0);
    }

    /** "-2: there are no so many; NONE: k is below 0" */
    private static void wallOfNone() {
        ShadowPool x = Edges.pool("thing a 1 1 1 4;thing b 1 1 1 3;thing c 1 1 1 2;thing d 1 1 1 1;thing e 1 1 1 0;");
        for (int k : new int[] {-1, -2, -1000, Edges.LEAST, Edges.LEAST + 1}) {
            Edges.due(-1, x, "wall", k);
        }
        for (int k : new int[] {0, 1, 4, 5, 6, 700, Edges.GREATEST}) {
            Edges.due(-2, x, "wall", k);
        }
        x.days(1);
        for (int k = 0; k < 5; k++) {
            Edges.due(4 - k, x, "wall", k);
        }
        for (int k : new int[] {5, 6, 256, 65536, Edges.GREATEST, Edges.GREATEST - 1}) {
            Edges.due(-2, x, "wall", k);
        }
        Edges.due(-1, x, "wall", -1);
        Edges.due(-1, x, "wall", Edges.LEAST);
        Edges.due(5, x, "count", 6);
    }

    /** "Long.MIN_VALUE: an ERROR, no such law, no such ones." */
    private static void lawOfNone() {
        String[] laws = {"law late 5;", "law price 6;", "law near 7;"};
        for (int what = 0; what < 3; what++) {
            ShadowPool x = Edges.pool(THREE + laws[what]);
            for (int other = 0; other < 3; other++) {
                Edges.due(other == what ? 5L + what : Long.MIN_VALUE, x, "law", other, 2, 2);
            }
            Edges.dueBeyond(Long.MIN_VALUE, x, 0, 2, 0, "law", 0, 0, 0);
            Edges.dueBeyond(Long.MIN_VALUE, x, 0, 2, 1, "law", what, 0, 0);
            Edges.dueBeyond(what == 2 ? Long.MIN_VALUE : 5L + what, x, 0, 2, 2, "law", what, 0, 0);
        }
        // each by itself, in whatever order they are told
        for (String text : new String[] {laws[0] + laws[1] + laws[2], laws[2] + laws[1] + laws[0], laws[1] + laws[2] + laws[0], laws[2] + laws[0] + laws[1]}) {
            ShadowPool all = Edges.pool(THREE + text);
            for (int what = 0; what < 3; what++) {
                Edges.due(5L + what, all, "law", what, 1, 1);
            }
        }
        ShadowPool x = Edges.pool(THREE + "law late 1/0;law price 1/0;law near 1/0;");
        for (int what = 0; what < 3; what++) {
            Edges.due(Long.MIN_VALUE, x, "law", what, 0, 0);
        }
        ShadowPool without = Edges.pool("thing a 1 1 1 1;law near 1;law late 2;");
        Edges.due(Long.MIN_VALUE, without, "law", 2, 0, 0);
        Edges.due(2L, without, "law", 0, 0, 0);
    }

    /** "A LAMP hangs at a PLACE from now on: true; false: no such ones, it does." */
    private static void hangWhereItDoes() {
        ShadowPool x = Edges.pool(THREE);
        for (int lamp = 0; lamp < 3; lamp++) {
            Edges.due(false, x, "hang", lamp, 10 + 2 * lamp);
            Edges.dueBeyond(false, x, 0, 29, 1, "hang", lamp, 0);
        }
        Edges.dueBeyond(false, x, 0, 2, 0, "hang", 0, 5);
        Edges.due(0, x, "count", 9);
        Edges.due(true, x, "hang", 0, 0);
        Edges.due(false, x, "hang", 0, 0);
        Edges.due(true, x, "hang", 0, 29);
        Edges.due(false, x, "hang", 0, 29);
        Edges.due(true, x, "hang", 2, 29);
        Edges.due(29, x, "lamp", 0, 0);
        Edges.due(12, x, "lamp", 1, 0);
        Edges.due(29, x, "lamp", 2, 0);
        Edges.due(11, x, "lamp", 0, 1);
        Edges.due(3, x, "count", 9);
        Edges.due(true, x, "hang", 0, 10);
        Edges.due(4, x, "count", 9);
    }

    /** "Two LAMPS change their turns: true; false: no such ones, alike." */
    private static void turnAlike() {
        ShadowPool x = Edges.pool(THREE);
        for (int lamp = 0; lamp < 5; lamp++) {
            Edges.due(false, x, "turn", lamp, lamp);
        }
        for (int lamp = 0; lamp < 3; lamp++) {
            Edges.dueBeyond(false, x, 0, 2, 0, "turn", 0, lamp);
            Edges.dueBeyond(false, x, 0, 2, 1, "turn", lamp, 0);
        }
        Edges.due(0, x, "count", 9);
        Edges.due(true, x, "turn", 2, 0);
        Edges.due(2, x, "lamp", 0, 2);
        Edges.due(1, x, "lamp", 1, 2);
        Edges.due(0, x, "lamp", 2, 2);
        Edges.due(true, x, "turn", 0, 1);
        Edges.due(1, x, "lamp", 0, 2);
        Edges.due(2, x, "lamp", 1, 2);
        Edges.due(0, x, "lamp", 2, 2);
        // their places stay
        Edges.due(10, x, "lamp", 0, 0);
        Edges.due(2, x, "count", 9);
        ShadowPool one = Edges.pool("lamp 1 1;");
        Edges.due(false, one, "turn", 0, 1);
        Edges.due(false, one, "turn", 0, 0);
    }

    /** "Two THINGS change what they have: true; false: no such ones, alike, both have none." */
    private static void tradeOfNothing() {
        ShadowPool x = Edges.pool("thing a 1 1 1 1;thing b 9 1 1 1 shy;thing c 9 1 1 1 shy;lamp 1 0;");
        for (int thing = 0; thing < 5; thing++) {
            Edges.due(false, x, "trade", thing, thing);
        }
        for (int thing = 0; thing < 3; thing++) {
            Edges.dueBeyond(false, x, 0, 2, 0, "trade", 0, thing);
            Edges.dueBeyond(false, x, 0, 2, 1, "trade", thing, 0);
        }
        Edges.due(3, x, "own");
        x.days(1);
        Edges.due(false, x, "trade", 1, 2);
        Edges.due(false, x, "trade", 2, 1);
        Edges.due(0, x, "count", 9);
        Edges.due(true, x, "trade", 1, 0);
        Edges.due(-1, x, "thing", 0, 1);
        Edges.due(0, x, "thing", 1, 1);
        Edges.due(false, x, "trade", 0, 2);
        Edges.due(true, x, "trade", 1, 2);
        Edges.due(0, x, "thing", 2, 1);
        Edges.due(2, x, "count", 9);
        // the WALL isn't touched
        Edges.due(2, x, "count", 6);
    }

    /** "false: no such ones, alike, it is so" */
    private static void meetAsItIs() {
        ShadowPool x = Edges.pool(THREE);
        for (int thing = 0; thing < 5; thing++) {
            Edges.due(false, x, "meet", thing, thing, true);
            Edges.due(false, x, "meet", thing, thing, false);
        }
        for (int thing = 0; thing < 3; thing++) {
            Edges.dueBeyond(false, x, 0, 2, 0, "meet", 0, thing, true);
            Edges.dueBeyond(false, x, 0, 2, 1, "meet", thing, 0, true);
            Edges.dueBeyond(false, x, 0, 2, 0, "meet", 0, thing, false);
            Edges.dueBeyond(false, x, 0, 2, 1, "meet", thing, 0, false);
        }
        Edges.due(false, x, "meet", 0, 1, true);
        Edges.due(false, x, "meet", 1, 0, true);
        Edges.due(false, x, "meet", 2, 1, true);
        Edges.due(false, x, "meet", 0, 2, false);
        Edges.due(false, x, "meet", 2, 0, false);
        Edges.due(2, x, "count", 2);
        Edges.due(0, x, "count", 9);
        Edges.due(true, x, "meet", 1, 0, false);
        Edges.due(false, x, "meet", 1, 0, false);
        Edges.due(false, x, "meet", 0, 1, false);
        Edges.due(1, x, "count", 2);
        Edges.due(true, x, "meet", 2, 0, true);
        Edges.due(false, x, "meet", 0, 2, true);
        Edges.due(2, x, "count", 2);
        Edges.due(2, x, "count", 9);
    }

    /** "Two MEET from now on, behind all others" */
    private static void meetBehindAllOthers() {
        String lines = "thing a 1 1 1 1;thing b 1 1 1 1;thing c 1 1 1 1;";
        ShadowPool x = Edges.pool(lines + "meet b c;");
        x.meet(0, 1, true);
        x.meet(0, 2, true);
        x.trade(0, 1);
        x.trade(1, 2);
        // a has b's, b c's, c a's: of the three ways in two swaps that which begins with the first MEETING
        Edges.due(2, x, "swaps");
        Edges.due(12, x, "swap", 0);
        x.meet(1, 2, false);
        x.meet(1, 2, true);
        Edges.due(1, x, "swap", 0);
        x.meet(1, 0, false);
        x.meet(1, 0, true);
        Edges.due(2, x, "swap", 0);
    }

    /** "there are 10" */
    private static void meetTen() {
        ShadowPool x = Edges.pool("thing a 1 1 1 1;thing b 1 1 1 1;thing c 1 1 1 1;thing d 1 1 1 1;thing e 1 1 1 1;");
        int sum = 0;
        for (int one = 0; one < 5; one++) {
            for (int other = 0; other < one; other++) {
                Edges.due(sum, x, "count", 2);
                Edges.due(true, x, "meet", one, other, true);
                sum++;
            }
        }
        Edges.due(10, x, "count", 2);
        for (int one = 0; one < 5; one++) {
            for (int other = 0; other < 5; other++) {
                Edges.due(false, x, "meet", one, other, true);
                Edges.due(one != other, x, "meets", one, other);
            }
        }
        Edges.due(10, x, "count", 2);
        Edges.due(true, x, "meet", 0, 4, false);
        Edges.due(9, x, "count", 2);
        Edges.due(true, x, "meet", 4, 0, true);
        Edges.due(10, x, "count", 2);
        x.trade(0, 4);
        Edges.due(1, x, "swaps");
        Edges.due(4, x, "swap", 0);
    }

    /** "Whether two MEET." */
    private static void meetsEitherWay() {
        ShadowPool x = Edges.pool(THREE);
        boolean[][] due = {{false, true, false}, {true, false, true}, {false, true, false}};
        for (int one = 0; one < 3; one++) {
            for (int other = 0; other < 3; other++) {
                Edges.due(due[one][other], x, "meets", one, other);
            }
            Edges.dueBeyond(false, x, 0, 2, 0, "meets", 0, one);
            Edges.dueBeyond(false, x, 0, 2, 1, "meets", one, 0);
        }
        for (int beyond : Edges.beyond(0, 2)) {
            Edges.due(false, x, "meets", beyond, beyond);
        }
    }

    /** "The latest is undone: how many are left; NONE: none." */
    private static void undoTheLatestFirst() {
        ShadowPool x = Edges.pool(THREE);
        Edges.due(-1, x, "undo");
        for (int place = 0; place < 5; place++) {
            x.hang(0, place);
        }
        for (int left = 4; left >= 0; left--) {
            Edges.due(left, x, "undo");
            Edges.due(left > 0 ? left - 1 : 10, x, "lamp", 0, 0);
            Edges.due(left, x, "count", 9);
        }
        Edges.due(-1, x, "undo");
        Edges.due(-1, x, "undo");
        Edges.due(0, x, "count", 9);
        Edges.due(10, x, "lamp", 0, 0);
        // what is undone is no deed itself
        x.hang(0, 3);
        x.undo();
        Edges.due(-1, x, "undo");
        Edges.due(10, x, "lamp", 0, 0);
    }

    /** "the latest first (20 at most)" */
    private static void undoTwentyAtMost() {
        for (int deeds = 19; deeds <= 45; deeds++) {
            ShadowPool x = Edges.pool("lamp 0 0;");
            for (int place = 1; place <= deeds; place++) {
                Edges.is("a deed is done with any number ahead", true, x.hang(0, place % 30));
            }
            int most = Math.min(20, deeds);
            Edges.due(most, x, "count", 9);
            for (int left = most - 1; left >= 0; left--) {
                Edges.due(left, x, "undo");
            }
            Edges.due(-1, x, "undo");
            Edges.due((deeds - most) % 30, x, "lamp", 0, 0);
        }
    }

    /** "if no DAY went by since" */
    private static void undoUntilADayGoesBy() {
        ShadowPool x = Edges.pool(THREE);
        x.hang(0, 3);
        x.days(0);
        Edges.due(1, x, "count", 9);
        x.days(-1);
        x.days(51);
        Edges.due(1, x, "count", 9);
        x.days(1);
        Edges.due(0, x, "count", 9);
        Edges.due(-1, x, "undo");
        Edges.due(3, x, "lamp", 0, 0);
        x.turn(0, 1);
        Edges.due(1, x, "count", 9);
        Edges.due(0, x, "undo");
        Edges.due(0, x, "lamp", 0, 2);
        x.hang(0, 4);
        x.days(50);
        Edges.due(-1, x, "undo");
        // questions that look ahead are no DAYS
        x.hang(0, 5);
        x.best(5);
        x.hangs(0);
        x.rests(0, 1);
        x.season(0, 20, 0);
        x.whole(0, 4, 0);
        x.chance(1, 20, 1);
        x.tried(0, 0, 20);
        x.rules();
        x.keep();
        Edges.due(1, x, "count", 9);
        Edges.due(0, x, "undo");
        Edges.due(4, x, "lamp", 0, 0);
    }

    /** "Hanging, ORDER, trades, MEETINGS by call can be undone": each one back to just what was. */
    private static void undoEachKind() {
        ShadowPool x = Edges.pool("thing a 1 1 1 1;thing b 1 1 1 1;thing c 1 1 1 1;thing d 9 1 1 1 shy;lamp 1 0;lamp 3 0;lamp 5 0;meet a b;meet b c;meet a c;");
        x.days(1);
        String before = Edges.seenOf(x);
        for (String deed : new String[] {"hang", "turn", "trade", "meet", "part"}) {
            Edges.is(deed, true, doDeed(x, deed));
            Edges.is(deed + " changed something", false, before.equals(Edges.seenOf(x)));
            Edges.due(0, x, "undo");
            Edges.is(deed + " undone", before, Edges.seenOf(x));
        }
        // a MEETING undone stands where it stood: the first of the MEETINGS
        ShadowPool y = Edges.pool("thing a 1 1 1 1;thing b 1 1 1 1;thing c 1 1 1 1;meet a b;meet b c;meet a c;");
        y.trade(0, 1);
        y.trade(1, 2);
        Edges.due(1, y, "swap", 0);
        y.meet(0, 1, false);
        Edges.due(2, y, "swap", 0);
        y.undo();
        Edges.due(1, y, "swap", 0);
        // so does one from between: it is the first again once the one ahead of it goes behind all others
        y.meet(1, 2, false);
        y.undo();
        y.meet(0, 1, false);
        y.meet(0, 1, true);
        Edges.due(12, y, "swap", 0);
    }

    private static boolean doDeed(ShadowPool x, String deed) {
        switch (deed) {
            case "hang":
                return x.hang(1, 29);
            case "turn":
                return x.turn(2, 0);
            case "trade":
                return x.trade(3, 1);
            case "meet":
                return x.meet(3, 0, true);
            default:
                return x.meet(1, 2, false);
        }
    }

    /** "NONE: there is none" */
    private static void imageOfNone() {
        ShadowPool x = Edges.pool(THREE);
        Edges.due(-1, x, "back");
        x.hang(0, 3);
        x.days(2);
        Edges.due(-1, x, "back");
        Edges.due(2, x, "count", 5);
        Edges.due(3, x, "lamp", 0, 0);
        x.keep();
        Texts.load(x, THREE);
        Edges.due(-1, x, "back");
        x.keep();
        Texts.load(x, "@");
        Edges.due(0, x, "back");
    }

    /** "An IMAGE keeps all but what was SEEN": who has what, the WALL, LAMPS, MEETINGS in their order, the DAY, the last number. */
    private static void imageKeepsAll() {
        String text = "thing a 1 2 3 4;thing b 5 6 7 8 thief;thing c 9 1 2 3;lamp 10 9;lamp 8 13;meet a b;meet b c;meet a c;fog 50;seed 3;";
        ShadowPool x = Edges.pool(text);
        ShadowPool plain = Edges.pool(text);
        for (ShadowPool each : new ShadowPool[] {x, plain}) {
            each.days(3);
            each.hang(0, 4);
            each.turn(0, 1);
            each.trade(0, 1);
            each.meet(0, 1, false);
            each.meet(0, 1, true);
        }
        Edges.due(3, x, "keep");
        // keeping itself changes nothing
        Edges.is("behind keep()", Edges.seenOf(plain), Edges.seenOf(x));
        x.days(7);
        x.hang(1, 20);
        x.turn(0, 1);
        x.trade(0, 2);
        x.meet(1, 2, false);
        Edges.due(3, x, "back");
        for (int i = 0; i < 5; i++) {
            x.days(1);
            plain.days(1);
            Edges.is("the numbers go on as from the IMAGE", Edges.seenOf(plain), Edges.seenOf(x));
        }
        // the IMAGE stays
        Edges.due(3, x, "back");
        Edges.due(3, x, "count", 5);
        Edges.due(3, x, "back");
    }

    /** "An IMAGE is kept (in place of one ahead): which DAY it is." */
    private static void imageInPlaceOfOneAhead() {
        ShadowPool x = Edges.pool(THREE);
        Edges.due(0, x, "keep");
        x.days(5);
        Edges.due(5, x, "keep");
        x.days(5);
        Edges.due(5, x, "back");
        x.hang(0, 1);
        Edges.due(5, x, "keep");
        x.hang(0, 2);
        Edges.due(5, x, "back");
        Edges.due(1, x, "lamp", 0, 0);
        ShadowPool late = Edges.pool(THREE);
        Edges.due(0, late, "keep");
        for (int i = 0; i < 20; i++) {
            late.days(i < 19 ? 50 : 49);
        }
        Edges.due(0, late, "back");
        Edges.due(50, late, "days", 50);
    }

    /** "(nothing to undo then)" */
    private static void backLeavesNothingToUndo() {
        ShadowPool x = Edges.pool(THREE);
        x.hang(0, 1);
        Edges.due(0, x, "keep");
        // keep() leaves what can be undone
        Edges.due(1, x, "count", 9);
        x.hang(0, 2);
        Edges.due(2, x, "count", 9);
        Edges.due(0, x, "back");
        Edges.due(0, x, "count", 9);
        Edges.due(-1, x, "undo");
        Edges.due(1, x, "lamp", 0, 0);
        x.hang(0, 7);
        Edges.due(0, x, "undo");
        Edges.due(1, x, "lamp", 0, 0);
    }

    /** "All (but what was SEEN) is as in the IMAGE" */
    private static void backLeavesWhatWasSeen() {
        ShadowPool x = Edges.pool(THREE);
        x.see(1, 0, 0);
        x.keep();
        x.see(1, 0, 511);
        x.strike(0);
        Edges.due(0, x, "back");
        Edges.due(3, x, "count", 7);
        Edges.due(3, x, "see", 1, 0, 0);
    }

    /** "NONE for another what." */
    private static void countsOfNone() {
        ShadowPool x = Edges.pool(THREE + "rule stack;law late 1+2;");
        int[] due = {3, 3, 2, 1, 3, 0, 0, 0, 0, 0};
        for (int what = 0; what < 10; what++) {
            Edges.due(due[what], x, "count", what);
        }
        Edges.dueBeyond(-1, x, 0, 9, 0, "count", 0);
        Edges.dueBeyond(-1, new ShadowPool(), 0, 9, 0, "count", 0);
    }

    private static void countsAtTheirMost() {
        StringBuilder text = new StringBuilder();
        for (char c = 'a'; c <= 'e'; c++) {
            text.append("thing ").append(c).append(" 1 1 1 1;lamp 20 0;");
            for (char d = 'a'; d < c; d++) {
                text.append("meet ").append(c).append(' ').append(d).append(';');
            }
        }
        ShadowPool x = Edges.pool(text + "rule fit;law late not " + "1+".repeat(31) + "1;");
        for (int i = 0; i < 20; i++) {
            x.days(i < 19 ? 50 : 49);
        }
        for (int i = 0; i < 24; i++) {
            Edges.due(i, x, "see", 1, 0, 0);
        }
        for (int i = 0; i < 20; i++) {
            x.hang(0, i);
        }
        int[] due = {5, 5, 10, 2, 64, 999, 5, 24, 24, 20};
        for (int what = 0; what < 10; what++) {
            Edges.due(due[what], x, "count", what);
        }
        Edges.due(true, x, "known", 0);
        Edges.due(0, x, "count", 8);
        Edges.due(true, x, "known", 24);
        Edges.due(24, x, "count", 8);
    }
}
