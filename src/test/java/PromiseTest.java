import java.util.NoSuchElementException;

/** For each promise of the document: ordinary inputs, the edges it names, and wrong inputs, worked out by hand. */
public final class PromiseTest {
    private static final String THREE = "thing a 0 5 256 1;thing b 4 3 16 0;thing c 9 8 7 2 thief;lamp 1 3;lamp 5 9;meet a b;";
    private static int asked = 0;
    private static int wrong = 0;

    private static void due(String call, long want, long got) {
        asked++;
        if (got != want) {
            wrong++;
            System.out.println(call + " answered " + got + ", due is " + want);
        }
    }

    private static void due(String call, boolean want, boolean got) {
        due(call, want ? 1 : 0, got ? 1 : 0);
    }

    private static ShadowPool pool(String text) {
        ShadowPool x = new ShadowPool();
        if (Texts.load(x, text) < 0) {
            wrong++;
            System.out.println("a FAULT " + x.fault(0) + " at " + x.fault(1) + " in " + text);
        }
        return x;
    }

    private static void dueFault(String text, int kind, int place) {
        ShadowPool x = pool("thing z 1 1 1 1;");
        due("text of " + text, -1, Texts.load(x, text));
        due("fault(0) of " + text, kind, x.fault(0));
        due("fault(1) of " + text, place, x.fault(1));
        due("count(0) behind " + text, 1, x.count(0));
    }

    public static void main(String[] args) {
        newObject();
        feed();
        text();
        faults();
        faultsOfExpressions();
        named();
        thing();
        lampAndWall();
        law();
        expressions();
        hang();
        turn();
        trade();
        meet();
        dayByQueue();
        dayByStack();
        dayByFit();
        thieves();
        noon();
        fog();
        lateAndNear();
        daysAndOwn();
        best();
        gives();
        hangs();
        swaps();
        looks();
        seen();
        rests();
        price();
        season();
        whole();
        chance();
        tried();
        undo();
        images();
        counts();
        System.out.println(asked + " answers asked, " + wrong + " not as due");
        if (wrong != 0) {
            System.exit(1);
        }
    }

    private static void newObject() {
        ShadowPool x = new ShadowPool();
        for (int what = 0; what < 10; what++) {
            due("new count(" + what + ")", 0, x.count(what));
        }
        due("new text(1)", -2, x.text(1));
        due("new fault(0)", 0, x.fault(0));
        due("new fault(1)", -1, x.fault(1));
        due("new best(5)", 0, x.best(5));
        due("new rules()", 7, x.rules());
        due("new days(50)", 50, x.days(50));
    }

    private static void feed() {
        ShadowPool x = new ShadowPool();
        for (int i = 1; i <= 35; i++) {
            due("feed " + i, 20 * i, x.feed(0x20202020, 0x0a0a0a0a, 0x20202020, 0x20202020, 0x20202020));
        }
        due("feed 36", -1, x.feed(0, 0, 0, 0, 0));
        due("text(701)", -2, x.text(701));
        due("text(700)", 0, x.text(700));
        due("feed anew", 20, x.feed(0x6c616d70, 0x20312032, 0x3b6c616d, 0x70203320, 0x343b8000));
        due("text of bytes, the highest first", 2, x.text(18));
        due("lamp(1, 1)", 4, x.lamp(1, 1));
        x.feed(0x6c616d70, 0x20312032, 0x3b6c616d, 0x70203320, 0x343b8000);
        due("a byte above 127", -1, x.text(20));
        due("its place", 18, x.fault(1));
    }

    private static void text() {
        ShadowPool x = pool(THREE);
        x.days(1);
        x.see(1, 0, 0);
        x.known(0);
        x.keep();
        x.trade(0, 2);
        due("text(-1)", -2, x.text(-1));
        due("a FAULT", -1, Texts.load(x, "lamp;"));
        due("day stays", 1, x.count(5));
        due("undo stays", 1, x.count(9));
        due("image stays", 1, x.back());
        due("seen stays", 1, x.count(7));
        x.feed(0, 0, 0, 0, 0);
        due("not so many", -2, x.text(21));
        due("the tape stays", 40, x.feed(0, 0, 0, 0, 0));
        due("fault(0) of the one ahead", 1, x.fault(0));
        due("text(0)", 0, x.text(0));
        due("the tape is empty", 20, x.feed(0, 0, 0, 0, 0));
        due("no image", -1, x.back());
        due("nothing seen", 0, x.count(7));
        due("no things", 0, x.count(0));
        x.text(0);
        due("lines", 7, Texts.load(x, " " + THREE + "\n\nrule   fit ;  "));
        due("all have their own", 3, x.own());
        due("day", 0, x.count(5));
        due("known by all", 0, x.count(8));
        dueCut("thing abcdefg", 12, 1, 12);
        dueCut("seed 999999", 6, 1, 6);
        dueCut("law late 1<=2", 11, 1, 11);
        dueCut("law late 1<>2", 11, 1, 11);
        dueCut("law late 1>=2", 11, 1, 11);
        due("told without blanks", 1, Texts.load(x, "thing a0 9;".replace("9", "9 0 0")));
    }

    /** What stands on the tape behind the first n bytes is not of the text. */
    private static void dueCut(String text, int n, int kind, int place) {
        ShadowPool x = new ShadowPool();
        for (int[] five : Texts.fives(text.getBytes(java.nio.charset.StandardCharsets.ISO_8859_1))) {
            x.feed(five[0], five[1], five[2], five[3], five[4]);
        }
        due("text(" + n + ") of " + text, -1, x.text(n));
        due("fault(0) of " + n + " of " + text, kind, x.fault(0));
        due("fault(1) of " + n + " of " + text, place, x.fault(1));
    }

    private static void faults() {
        dueFault("thing a", 1, 7);
        dueFault("thing a  ", 1, 9);
        dueFault("thing a 1 1 1 1", 1, 15);
        dueFault(";", 1, 0);
        dueFault("lamp 1 1;;", 1, 9);
        dueFault("lamp 1 1 1;", 1, 9);
        dueFault("Lamp 1 1;", 1, 0);
        dueFault("lamp\t1 1;", 1, 4);
        dueFault("lamps 1 1;", 1, 0);
        dueFault("queue;", 1, 0);
        dueFault("thing abcdefg 1 1 1 1;", 1, 6);
        dueFault("thing day 1 1 1 1;", 1, 6);
        dueFault("thing 1 1 1 1 1;", 1, 6);
        dueFault("thing a 1 1 1 1 queue;", 1, 16);
        dueFault("thing a 1 1 1 1 thief shy;", 1, 22);
        dueFault("thing a 99999999999999999999 1 1 1;", 2, 8);
        dueFault("thing a 1 10 1 1;", 2, 10);
        dueFault("thing a 1 0 1 1;", 2, 10);
        dueFault("thing a 1 1 512 1;", 2, 12);
        dueFault("thing a 1 1 1 10 @;", 2, 14);
        dueFault("lamp 1 30;", 2, 7);
        dueFault("lamp 30 1;", 2, 5);
        dueFault("lamp 30 @;", 2, 5);
        dueFault("lamp 1;", 1, 6);
        String five = "";
        for (char name = 'a'; name <= 'e'; name++) {
            five += "thing " + name + " 1 1 1 1;";
        }
        dueFault(five + "thing a @", 2, five.length());
        String all = "";
        for (char one = 'a'; one <= 'e'; one++) {
            for (char other = 'a'; other < one; other++) {
                all += "meet " + one + " " + other + ";";
            }
        }
        dueFault(five + all + "meet a a;", 2, five.length() + all.length());
        dueFault("rule 9999999;", 1, 5);
        dueFault("rule late;", 1, 5);
        dueFault("fog 101;", 2, 4);
        dueFault("fog -1;", 1, 4);
        dueFault("seed 100000;", 2, 5);
        dueFault("seed 1;seed 100000;", 3, 7);
        dueFault("rule fit;rule;", 3, 9);
        dueFault("fog 0;fog 0;", 3, 6);
        dueFault("thing a 1 1 1 1;thing a;", 3, 22);
        dueFault("thing a 1 1 1 1;meet a b;thing b 1 1 1 1;", 4, 23);
        dueFault("thing a 1 1 1 1;meet b b;", 4, 21);
        dueFault("thing a 1 1 1 1;meet a a;", 5, 23);
        dueFault("thing a 1 1 1 1;meet a far;", 1, 23);
        dueFault("thing a 1 1 1 1;thing b 1 1 1 1;meet a b;meet b a;", 3, 48);
        dueFault("lamp 1 1;lamp 1 1;lamp 1 1;lamp 1 1;lamp 1 1;lamp", 2, 45);
        ShadowPool x = pool("lamp 1 1;");
        due("fault(2)", -1, x.fault(2));
        due("fault(-1)", -1, x.fault(-1));
        due("fault(1) without", -1, x.fault(1));
        due("edges", 3, Texts.load(x, "thing abcdef 29 9 511 9 shy;lamp 29 29;thing b 0 1 0 0 thief;"));
        due("edges of fog, seed", 2, Texts.load(x, "fog 100;seed 099999;"));
    }

    private static void faultsOfExpressions() {
        dueFault("law size 1;", 1, 4);
        dueFault("law late ;", 1, 9);
        dueFault("law late 1", 1, 10);
        dueFault("law late 1 2;", 1, 11);
        dueFault("law late 10000;", 2, 9);
        dueFault("law late 1 10000;", 1, 11);
        dueFault("law late 1 <= 2 < 3;", 1, 16);
        dueFault("law late 1 < = 3;", 1, 13);
        dueFault("law late 1 > > 3;", 1, 13);
        dueFault("law late 1 + not 2;", 1, 13);
        dueFault("law late 1 < not 2;", 1, 13);
        dueFault("law late 1 not 2;", 1, 11);
        dueFault("law late - 2;", 1, 9);
        dueFault("law late (1;", 1, 11);
        dueFault("law late (1", 1, 11);
        dueFault("law late 1);", 1, 10);
        dueFault("law late ();", 1, 10);
        dueFault("law late 1 and;", 1, 14);
        dueFault("law late a;", 1, 9);
        dueFault("law late 1;law late 1;", 3, 15);
        dueFault("law late ((((((((((1", 2, 17);
        dueFault("law late 1 (((((((((1", 1, 11);
        dueFault("law late " + "1+".repeat(32) + "1;", 2, 73);
        dueFault("law late " + "1+".repeat(32) + "1 @", 2, 73);
        dueFault("law late not " + "1+".repeat(32) + " 1;", 2, 76);
        dueFault("law late " + "1+".repeat(32) + ");", 1, 73);
        dueFault("law late " + "1+".repeat(20) + "1;law near " + "1+".repeat(11) + "1+1;", 2, 83);
        ShadowPool x = pool("law late ((((((((1))))))))+(((((((((1)))))))));".replace("(((((((((", "((((((((").replace(")))))))))", "))))))))"));
        due("knots without '('", 3, x.count(4));
        due("64 knots", 1, Texts.load(x, "law late not " + "1+".repeat(31) + "1;"));
        due("count(4)", 64, x.count(4));
        due("all three laws", 3, Texts.load(x, "law near 1;law price 9999;law late(not not 1<>2)and 3>=4 or not 1<=2;"));
        due("count(4) of three", 16, x.count(4));
    }

    private static void named() {
        ShadowPool x = pool("thing abcdef 1 1 1 1;thing b 1 1 1 1;thing ba 1 1 1 1;");
        int letters = 0;
        for (int i = 1; i <= 6; i++) {
            letters = letters << 5 | i;
        }
        due("named abcdef", 0, x.named(letters));
        due("named b", 1, x.named(2 << 25));
        due("named ba", 2, x.named(2 << 25 | 1 << 20));
        due("named bb", -1, x.named(2 << 25 | 2 << 20));
        due("named 0", -1, x.named(0));
        due("named -1", -1, x.named(-1));
        due("named with a bit above", -1, x.named(2 << 25 | 1 << 30));
    }

    private static int thrown(ShadowPool x, int thing, int what) {
        try {
            x.thing(thing, what);
            return 0;
        } catch (IndexOutOfBoundsException e) {
            return 1;
        } catch (NoSuchElementException e) {
            return 2;
        }
    }

    private static void thing() {
        ShadowPool x = pool("thing a 29 5 256 9;thing b 4 3 16 0 shy;");
        int[] of = {29, 0, 5, 256, 9, 0};
        for (int what = 0; what < 6; what++) {
            due("thing(0, " + what + ")", of[what], x.thing(0, what));
        }
        due("thing(1, 5)", 2, x.thing(1, 5));
        x.days(1);
        due("thing(0, 1)", -1, x.thing(0, 1));
        due("thing(2, 0)", 1, thrown(x, 2, 0));
        due("thing(-1, 0)", 1, thrown(x, -1, 0));
        due("thing(2, 9)", 1, thrown(x, 2, 9));
        due("thing(1, 6)", 2, thrown(x, 1, 6));
        due("thing(1, -1)", 2, thrown(x, 1, -1));
    }

    private static void lampAndWall() {
        ShadowPool x = pool("thing a 29 5 256 9;thing b 4 3 16 0 shy;lamp 1 2;lamp 3 4;");
        due("lamp(1, 0)", 3, x.lamp(1, 0));
        due("lamp(1, 1)", 4, x.lamp(1, 1));
        due("lamp(1, 2)", 1, x.lamp(1, 2));
        due("lamp(1, 3)", -1, x.lamp(1, 3));
        due("lamp(1, -1)", -1, x.lamp(1, -1));
        due("lamp(2, 0)", -1, x.lamp(2, 0));
        due("lamp(-1, 0)", -1, x.lamp(-1, 0));
        due("wall(0) of nothing", -2, x.wall(0));
        x.days(1);
        due("wall(0), the one that comes first", 1, x.wall(0));
        due("wall(1)", 0, x.wall(1));
        due("wall(2)", -2, x.wall(2));
        due("wall(-1)", -1, x.wall(-1));
        due("count(6)", 2, x.count(6));
    }

    private static void law() {
        ShadowPool x = pool("thing a 2 4 3 1;thing b 8 6 3 7 shy;lamp 5 9;lamp 29 0;law late size*1000+comes*100+far+own*10+kind;"
                + "law near size*1000*10+far*100+which*10+own*5+kind;law price size+day/0;");
        due("late of a", 4110, x.law(0, 0, 99));
        due("late of b", 6712, x.law(0, 1, -1));
        due("near of b, lamp 1", 62117, x.law(2, 1, 1));
        due("near of a, lamp 0", 40305, x.law(2, 0, 0));
        due("an ERROR", Long.MIN_VALUE, x.law(1, 0, 0));
        due("no such what", Long.MIN_VALUE, x.law(3, 0, 0));
        due("no such what", Long.MIN_VALUE, x.law(-1, 0, 0));
        due("no such thing", Long.MIN_VALUE, x.law(0, 2, 0));
        due("no such lamp", Long.MIN_VALUE, x.law(2, 0, 2));
        x.trade(0, 1);
        due("late of what it has", 6100, x.law(0, 0, 0));
        due("near of its own size", 40300, x.law(2, 0, 0));
        ShadowPool y = pool("thing a 2 4 3 1;thing b 2 6 3 1;law price size*10+day+own;");
        due("no such law", Long.MIN_VALUE, y.law(0, 0, 0));
        y.days(3);
        due("price of none", 3, y.law(1, 0, 0));
    }

    private static long worth(String expression) {
        return pool("thing a 2 4 3 1;law late " + expression + ";").law(0, 0, 0);
    }

    private static void expressions() {
        due("1+2*3", 7, worth("1+2*3"));
        due("10-3-4", 3, worth("10-3-4"));
        due("100/7/2*3", 21, worth("100/7/2*3"));
        due("(0-7)/2", -3, worth("(0-7)/2"));
        due("7/(0-2)", -3, worth("7/(0-2)"));
        due("not 1 < 2", 0, worth("not 1 < 2"));
        due("not not 5", 1, worth("not not 5"));
        due("1 or 0 and 0", 1, worth("1 or 0 and 0"));
        due("3 and 5", 1, worth("3 and 5"));
        due("0 or 7", 1, worth("0 or 7"));
        due("not 0 and 0", 0, worth("not 0 and 0"));
        due("1+1=2", 1, worth("1+1=2"));
        due("(1<2)+(2<=2)+(3=3)+(3<>3)+(4>=5)+(5>4)", 4, worth("(1<2)+(2<=2)+(3=3)+(3<>3)+(4>=5)+(5>4)"));
        due("(1<2)<3", 1, worth("(1<2)<3"));
        due("1 or 1/0", Long.MIN_VALUE, worth("1 or 1/0"));
        due("0 and 1/0", Long.MIN_VALUE, worth("0 and 1/0"));
        due("0*(1/0)", Long.MIN_VALUE, worth("0*(1/0)"));
        String most = "5000*5000*5000*8";
        due(most, 1000000000000L, worth(most));
        due(most + "+1", Long.MIN_VALUE, worth(most + "+1"));
        due("0-" + most, -1000000000000L, worth("0-" + most));
        due("0-" + most + "-1", Long.MIN_VALUE, worth("0-" + most + "-1"));
        due("back below", Long.MIN_VALUE, worth("(" + most + "+1)*0"));
        due("a product that passes a long", Long.MIN_VALUE, worth("(" + most + ")*(" + most + ")*0"));
        due("a product that wraps round to 0", Long.MIN_VALUE, worth("(4096*4096*4096)*(4096*4096*4)"));
        due("0*most", 0, worth("0*(" + most + ")"));
    }

    private static void hang() {
        ShadowPool x = pool("thing a 9 1 1 1;lamp 0 0;");
        due("hang(0, 0)", false, x.hang(0, 0));
        due("hang(1, 1)", false, x.hang(1, 1));
        due("hang(-1, 1)", false, x.hang(-1, 1));
        due("hang(0, 30)", false, x.hang(0, 30));
        due("hang(0, -1)", false, x.hang(0, -1));
        due("hang(0, 29)", true, x.hang(0, 29));
        due("hang(0, 9)", true, x.hang(0, 9));
        due("hang(0, 9) again", false, x.hang(0, 9));
        due("lamp(0, 0)", 9, x.lamp(0, 0));
        x.days(1);
        due("it gives from now on", 1, x.own());
        due("also behind the day", 9, x.lamp(0, 0));
    }

    private static void turn() {
        ShadowPool x = pool("lamp 0 0;lamp 1 1;lamp 2 2;");
        due("turn(0, 2)", true, x.turn(0, 2));
        due("turn(0, 1)", true, x.turn(0, 1));
        due("lamp(0, 2)", 1, x.lamp(0, 2));
        due("lamp(1, 2)", 2, x.lamp(1, 2));
        due("lamp(2, 2)", 0, x.lamp(2, 2));
        due("turn(1, 1)", false, x.turn(1, 1));
        due("turn(1, 3)", false, x.turn(1, 3));
        due("turn(-1, 0)", false, x.turn(-1, 0));
    }

    private static void trade() {
        ShadowPool x = pool("thing a 0 1 1 1;thing b 9 1 1 2;thing c 9 1 1 3;lamp 0 0;");
        due("trade(0, 0)", false, x.trade(0, 0));
        due("trade(0, 3)", false, x.trade(0, 3));
        due("trade(-1, 0)", false, x.trade(-1, 0));
        due("trade(0, 1)", true, x.trade(0, 1));
        due("thing(0, 1)", 1, x.thing(0, 1));
        x.trade(0, 1);
        x.days(1);
        due("both have none", false, x.trade(1, 2));
        due("one has none", true, x.trade(2, 0));
        due("thing(0, 1)", -1, x.thing(0, 1));
        due("thing(2, 1)", 0, x.thing(2, 1));
    }

    private static void meet() {
        ShadowPool x = pool("thing a 0 1 1 1;thing b 9 1 1 2;thing c 9 1 1 3;meet a b;");
        due("meets(0, 1)", true, x.meets(0, 1));
        due("meets(1, 0)", true, x.meets(1, 0));
        due("meets(1, 2)", false, x.meets(1, 2));
        due("meets(0, 0)", false, x.meets(0, 0));
        due("meets(0, 3)", false, x.meets(0, 3));
        due("meets(-1, 0)", false, x.meets(-1, 0));
        due("meet, it is so", false, x.meet(1, 0, true));
        due("part, it is so", false, x.meet(1, 2, false));
        due("meet oneself", false, x.meet(1, 1, true));
        due("part from oneself", false, x.meet(1, 1, false));
        due("meet none", false, x.meet(1, 3, true));
        due("meet(2, 1, true)", true, x.meet(2, 1, true));
        due("meets(1, 2)", true, x.meets(1, 2));
        due("count(2)", 2, x.count(2));
        due("part", true, x.meet(1, 0, false));
        due("count(2)", 1, x.count(2));
        due("meet again", true, x.meet(0, 1, true));
        x.trade(0, 2);
        // c a b by meetings (b c), (a b): behind all others now, so the first way begins with b and c
        due("swaps()", 3, x.swaps());
        due("swap(0), the first of the meetings", 12, x.swap(0));
    }

    private static void dayByQueue() {
        ShadowPool x = pool("thing a 0 1 1 3;thing b 1 2 1 2;thing c 2 3 1 1;thing d 3 4 1 0 shy;lamp 0 3;");
        x.days(1);
        // the row d c b a; by how far: a, b, c
        due("queue a", 3, x.thing(0, 1));
        due("queue b", 2, x.thing(1, 1));
        due("queue c", 1, x.thing(2, 1));
        due("the shy one", -1, x.thing(3, 1));
        due("queue wall(0)", 0, x.wall(0));
        x.days(1);
        // behind a: c (b's), b (c's), a (d's)
        due("the next row a", 0, x.thing(0, 1));
        due("the next row b", 1, x.thing(1, 1));
        due("the next row c", 2, x.thing(2, 1));
        due("the next wall(0)", 3, x.wall(0));
        ShadowPool y = pool("thing a 5 1 1 0;thing b 5 2 1 0;thing c 4 2 1 0;lamp 8 3;lamp 4 0;");
        y.days(1);
        due("like ones by numbers, a", 0, y.thing(0, 1));
        due("like ones by numbers, b", 1, y.thing(1, 1));
        due("another lamp, c", 2, y.thing(2, 1));
    }

    private static void dayByStack() {
        ShadowPool x = pool("thing a 0 1 1 3;thing b 1 2 1 2;thing c 2 3 1 1;lamp 2 1;rule stack;");
        x.days(1);
        // the row c b a; c first, then b; a is beyond the reach
        due("stack a", -1, x.thing(0, 1));
        due("stack b", 1, x.thing(1, 1));
        due("stack c", 0, x.thing(2, 1));
        due("stack wall(0)", 2, x.wall(0));
    }

    private static void dayByFit() {
        ShadowPool x = pool("thing a 0 5 1 9 shy;thing b 1 4 1 0;thing c 2 6 1 1;thing d 9 9 1 0;lamp 9 29;rule fit;");
        x.trade(1, 3);
        x.days(1);
        // d has 4, b has 9: the row b's 9, d's 4 (comes 0), c's 6, a's 5; d gets 9, c 6, b 4
        due("fit d", 3, x.thing(3, 1));
        due("fit c", 2, x.thing(2, 1));
        due("fit b", 1, x.thing(1, 1));
        due("fit left", 0, x.wall(0));
        ShadowPool y = pool("thing a 0 5 1 9 shy;thing b 1 4 1 5 shy;thing c 2 6 1 7 shy;thing d 9 5 1 0;lamp 9 0;rule fit;");
        y.trade(0, 3);
        y.days(1);
        // d has a's 5: the row 0 (5), 1 (4), 2 (6), 3 (5): of 0 and 3 the first
        due("fit, of several the first", 0, y.thing(3, 1));
        y.meet(0, 3, true);
        y.days(1);
        // the row 1, 2, 3, 0 now
        due("fit, d", 3, y.thing(3, 1));
    }

    private static void thieves() {
        ShadowPool x = pool("thing a 0 4 1 0 thief;thing b 0 9 1 1 thief;thing c 0 9 1 2 shy;thing d 0 1 1 3;lamp 0 0;rule stack;");
        x.days(1);
        // d gets its own by stack; of the two 9 the first of the row is b's
        due("the first thief", 1, x.thing(0, 1));
        due("the second thief", 2, x.thing(1, 1));
        due("d", 3, x.thing(3, 1));
        due("wall(0)", 0, x.wall(0));
    }

    private static void noon() {
        String lines = "thing a 0 1 1 1;thing b 1 1 1 0;thing c 29 1 1 5;lamp 0 1;";
        ShadowPool x = pool(lines);
        x.days(1);
        due("without", 0, x.own());
        ShadowPool y = pool(lines + "meet b a;");
        y.days(1);
        due("they swap", 2, y.own());
        ShadowPool z = pool(lines + "meet a c;");
        z.trade(1, 2);
        z.days(1);
        // the row c b->(b has c's, comes 0), a, c has b's: row 2, 0, 1: a gets 2, b gets 0; a and c: c would have its own
        due("with nothing", 2, z.thing(2, 1));
        due("with nothing", -1, z.thing(0, 1));
        ShadowPool o = pool("thing a 0 1 1 1;thing b 1 1 1 2;thing c 2 1 1 0;lamp 0 2;meet a b;meet a c;");
        o.days(1);
        // the row c a b: a has c's, b a's, c b's; a and b: a gets its own; a and c: would not be more
        due("in order, a", 0, o.thing(0, 1));
        due("in order, b", 2, o.thing(1, 1));
        due("in order, c", 1, o.thing(2, 1));
    }

    private static void fog() {
        ShadowPool x = pool("thing a 0 1 1 1;thing b 0 2 1 2 thief;lamp 0 0;fog 50;seed 0;");
        x.days(1);
        // the first number from 0 on is 0, the second one 21468
        due("fog: none for a", -1, x.thing(0, 1));
        due("fog: none for the thief", -1, x.thing(1, 1));
        due("fog: the wall", 2, x.count(6));
        x.days(1);
        due("no fog", 2, x.own());
        ShadowPool y = pool("thing a 0 1 1 1;lamp 0 0;fog 69;seed 0;");
        due("68 is below 69", 0, y.days(2) - 2 + y.own());
        ShadowPool z = pool("thing a 0 1 1 1;lamp 0 0;fog 68;seed 0;");
        due("68 isn't below 68", 1, z.days(2) - 2 + z.own());
        ShadowPool w = pool("thing a 0 1 1 1;lamp 0 0;fog 100;");
        due("as it goes without fog", 1, w.best(5));
        w.days(5);
        due("always fog", 0, w.own());
    }

    private static void lateAndNear() {
        ShadowPool x = pool("thing a 0 1 1 1;thing b 1 2 1 2;thing c 2 3 1 3;lamp 0 29;law late 0-size;law near 0-far;");
        x.days(1);
        // the row c b a; c first
        due("all have their own", 3, x.own());
        ShadowPool y = pool("thing a 0 1 1 3;thing b 1 2 1 2;thing c 2 3 1 1;lamp 0 29;law late 1/0;law near 1/0;");
        y.days(1);
        due("with an ERROR: a", 2, y.thing(0, 1));
        due("with an ERROR: c", 0, y.thing(2, 1));
        ShadowPool z = pool("thing a 0 1 1 3;thing b 1 2 1 2;thing c 2 3 1 1;lamp 0 29;law late size/(size-2);law near 5;");
        z.days(1);
        // a: -1, b: an ERROR, so 2, c: 3
        due("one ERROR: own", 3, z.own());
        ShadowPool w = pool("thing a 0 1 1 1;thing b 1 2 1 2;lamp 0 29;law late (day>=1)*(0-comes);");
        w.days(1);
        due("day 0", 2, w.own());
        w.days(1);
        due("day 1", 0, w.own());
        ShadowPool o = pool("thing a 0 1 1 1;thing b 1 2 1 2;lamp 0 29;law late own*9-comes;");
        o.trade(0, 1);
        o.days(1);
        // nobody has its own: b's thing has 0 and comes first
        due("own is looked at ahead of dusk", 2, o.own());
    }

    private static void daysAndOwn() {
        ShadowPool x = pool(THREE);
        due("days(-1)", -1, x.days(-1));
        due("days(51)", -1, x.days(51));
        due("days(0)", 0, x.days(0));
        due("own()", 3, x.own());
        for (int i = 1; i < 20; i++) {
            due("days(50)", 50 * i, x.days(50));
        }
        due("behind 999", -1, x.days(50));
        due("days(49)", 999, x.days(49));
        due("days(1)", -1, x.days(1));
        due("days(0)", 999, x.days(0));
        due("count(5)", 999, x.count(5));
        due("season looks behind 999", 999, x.season(0, 20, 0));
    }

    private static void best() {
        // the row b a: whoever's lamp is lit first gets b's
        ShadowPool x = pool("thing a 0 1 1 1;thing b 9 1 1 0;lamp 0 0;lamp 9 0;lamp 20 0;");
        due("best(0)", 1, x.best(0));
        due("best(1)", 0, x.best(1));
        due("best(2)", 2, x.best(2));
        due("best(3)", -2, x.best(3));
        due("best(4)", -2, x.best(4));
        due("best(5)", 2, x.best(5));
        due("best(6)", -1, x.best(6));
        due("best(-1)", -1, x.best(-1));
        due("nothing is turned", 0, x.lamp(0, 2));
        due("nothing is done", 0, x.count(5));
        x.turn(0, 1);
        due("the same by another order", 1, x.best(0));
        ShadowPool y = pool("thing a 0 1 1 0;thing b 9 1 1 0;lamp 0 0;lamp 9 0;");
        y.turn(0, 1);
        due("of several the first by lamps", 0, y.best(0));
    }

    private static void gives() {
        ShadowPool x = pool("thing a 0 1 1 1;thing b 9 1 1 0;thing c 20 1 1 5 shy;lamp 0 0;lamp 9 0;lamp 25 0;");
        due("gives(0, 0, 0)", 1, x.gives(0, 0, 0));
        due("gives(0, 0, 1)", 0, x.gives(0, 0, 1));
        due("gives(0, 0, 2)", 2, x.gives(0, 0, 2));
        due("gives(0, 0, 3)", -2, x.gives(0, 0, 3));
        due("gives(0, 1, 0)", 0, x.gives(0, 1, 0));
        due("gives(0, 2, 0)", -2, x.gives(0, 2, 0));
        due("gives(2, 2, 0)", -2, x.gives(2, 2, 0));
        due("gives(3, 0, 0)", -1, x.gives(3, 0, 0));
        due("gives(0, 3, 0)", -1, x.gives(0, 3, 0));
        due("gives(0, 0, 5)", -1, x.gives(0, 0, 5));
        due("gives(0, 0, -1)", -1, x.gives(0, 0, -1));
        due("gives(-1, 0, 0)", -1, x.gives(-1, 0, 0));
    }

    private static void hangs() {
        ShadowPool x = pool("thing a 7 1 1 1;thing b 12 1 1 2;lamp 29 0;lamp 29 2;");
        due("hangs(0)", 0, x.hangs(0));
        due("hangs(1)", 7, x.hangs(1));
        due("hangs(2)", 1, x.hangs(2));
        due("hangs(3)", -1, x.hangs(3));
        due("hangs(-1)", -1, x.hangs(-1));
        due("nothing is hung", 29, x.lamp(0, 0));
        x.hang(0, 7);
        due("hangs(0), the other one", 1, x.hangs(0));
        due("hangs(1), the first place", 10, x.hangs(1));
        due("hangs(2)", 2, x.hangs(2));
        x.hang(1, 14);
        due("none is more", -2, x.hangs(0));
        ShadowPool y = pool("thing a 29 1 1 1;lamp 0 0;");
        due("hangs(1), the last place", 29, y.hangs(1));
        // lamp 0 gives a ahead of b only where it hangs now
        ShadowPool z = pool("thing a 10 1 1 0;thing b 12 1 1 1;thing c 20 1 1 2;lamp 10 2;lamp 0 0;");
        due("hangs(0), the second one", 1, z.hangs(0));
        due("hangs(1) of it", 20, z.hangs(1));
        due("hangs(2) of it", 3, z.hangs(2));
        due("no such what all the same", -1, x.hangs(3));
    }

    private static void swaps() {
        ShadowPool x = pool("thing a 0 1 1 1;thing b 1 1 1 1;thing c 2 1 1 1;thing d 3 1 1 1;meet b a;meet c b;");
        due("swaps()", 0, x.swaps());
        due("swap(0)", -2, x.swap(0));
        x.trade(0, 2);
        due("swaps()", 3, x.swaps());
        due("swap(0)", 1, x.swap(0));
        due("swap(1)", 12, x.swap(1));
        due("swap(2)", 1, x.swap(2));
        due("swap(3)", -2, x.swap(3));
        due("swap(-1)", -1, x.swap(-1));
        x.trade(1, 3);
        due("by none", -2, x.swaps());
        due("swap(0) of none", -2, x.swap(0));
        ShadowPool y = pool("thing a 0 1 1 0;thing b 1 1 1 1;lamp 1 0;meet a b;");
        y.meet(0, 1, false);
        y.days(1);
        y.meet(0, 1, true);
        due("b has a's, a has nothing", 0, y.thing(1, 1));
        due("swaps with nothing", 1, y.swaps());
        due("swap(0)", 1, y.swap(0));
    }

    private static void looks() {
        // 1: the last cell; 38: 000 100 110; 25: 000 011 001; 26: 000 011 010
        ShadowPool x = pool("thing a 0 1 1 1;thing b 1 1 38 1;thing c 2 1 25 1;thing d 3 1 26 1;thing e 4 1 0 1;");
        due("look(0)", 256, x.look(0));
        due("look(1): 100 110, mirrored 010 110", 176, x.look(1));
        due("look(2): 110 010, mirrored 110 100", 400, x.look(2));
        due("look(3): 110 100", 400, x.look(3));
        due("look(4)", 0, x.look(4));
        due("look(5)", -1, x.look(5));
        due("look(-1)", -1, x.look(-1));
        due("alike(2)", 12, x.alike(2));
        due("alike(0)", 1, x.alike(0));
        due("alike(5)", -1, x.alike(5));
        due("alike(-1)", -1, x.alike(-1));
        due("sorts()", 4, x.sorts());
        due("whose(0)", 16, x.whose(0));
        due("whose(128)", 1, x.whose(128));
        due("whose(38)", 2, x.whose(38));
        due("whose(511)", 0, x.whose(511));
        due("whose(512)", -1, x.whose(512));
        due("whose(-1)", -1, x.whose(-1));
    }

    private static void seen() {
        // queue: the row b a, so a has b's and b a's; stack: each has its own, and so on
        ShadowPool x = pool("thing a 0 5 256 1;thing b 4 5 7 0;thing c 20 1 0 0 shy;lamp 0 9;");
        due("see(1, 0, 448)", 0, x.see(1, 0, 448));
        due("rules(): queue and, of like sizes the first, fit", 5, x.rules());
        due("see(2, 0, 1)", 1, x.see(2, 0, 1));
        due("see(0, 0, 1)", -1, x.see(0, 0, 1));
        due("see(21, 0, 1)", -1, x.see(21, 0, 1));
        due("see(1, 3, 1)", -1, x.see(1, 3, 1));
        due("see(1, -1, 1)", -1, x.see(1, -1, 1));
        due("see(1, 0, 512)", -1, x.see(1, 0, 512));
        due("see(1, 0, -1)", -1, x.see(1, 0, -1));
        due("strike(-1)", -1, x.strike(-1));
        due("strike(2)", -1, x.strike(2));
        due("see of none", 2, x.see(20, 2, 0));
        due("rules() of none", 0, x.rules());
        due("strike(2)", 3, x.strike(2));
        int without = x.rules();
        due("strike(3)", 4, x.strike(3));
        due("a struck strike doesn't count", 0, x.rules());
        due("strike(4)", 5, x.strike(4));
        due("and again", without, x.rules());
        due("known(7)", false, x.known(7));
        due("known(-2)", false, x.known(-2));
        due("count(8) of all", 6, x.count(8));
        due("known(1)", true, x.known(1));
        due("rules() by 1", 5, x.rules());
        due("known(5)", true, x.known(5));
        due("rules() by 5", 0, x.rules());
        due("count(8)", 5, x.count(8));
        due("see by 5", 6, x.see(1, 2, 0));
        due("count(8) stays", 5, x.count(8));
        due("known(0)", true, x.known(0));
        due("rules() by 0", 7, x.rules());
        due("known(-1)", true, x.known(-1));
        due("count(8)", 7, x.count(8));
        due("rules() by all", 0, x.rules());
        for (int i = 7; i < 24; i++) {
            due("see " + i, i, x.see(20, 1, 511));
        }
        due("there are 24", -1, x.see(1, 0, 1));
        due("there are 24", -1, x.strike(0));
        due("count(7)", 24, x.count(7));
        ShadowPool y = pool("thing a 0 5 256 1;thing b 4 5 7 0;lamp 0 9;rule stack;fog 100;");
        y.days(2);
        y.hang(0, 29);
        y.see(1, 0, 7);
        due("from the text on, as it goes", 5, y.rules());
    }

    private static void rests() {
        // one lamp within whose reach just a is; the row's first goes to a: it has what comes first
        ShadowPool x = pool("thing a 0 3 1 2;thing b 9 7 1 2;lamp 0 0;");
        // a has 7 if b comes ahead of a, else 3 (like ones: a is first); b has 0 at all times:
        // ten where b is ahead, and the five where b comes at 4
        due("rests(0, 1)", 15, x.rests(0, 1));
        due("rest(0, 1, 0)", 4, x.rest(0, 1, 0));
        due("rest(0, 1, 1)", 10, x.rest(0, 1, 1));
        due("rest(0, 1, 14)", 44, x.rest(0, 1, 14));
        due("rest(0, 1, 15)", -2, x.rest(0, 1, 15));
        due("rest(0, 1, -1)", -1, x.rest(0, 1, -1));
        due("rest(0, 0, 0)", -1, x.rest(0, 0, 0));
        due("rest(0, 2, 0)", -1, x.rest(0, 2, 0));
        due("rests(0, 0)", -1, x.rests(0, 0));
        due("rests(2, 0)", -1, x.rests(2, 0));
        due("rests(-1, 0)", -1, x.rests(-1, 0));
        due("by the first one's, then the second one's", 1, x.rest(1, 0, 0));
        due("comes stays", 2, x.thing(0, 4));
    }

    private static void price() {
        ShadowPool x = pool("thing a 0 3 1 2;thing b 9 7 1 2;");
        due("price(0) without a law", 3, x.price(0));
        due("price(2)", -1, x.price(2));
        due("price(-1)", -1, x.price(-1));
        x.trade(0, 1);
        due("of what it has", 7, x.price(0));
        x.days(1);
        due("of none", 0, x.price(0));
        ShadowPool y = pool("thing a 0 3 1 2;thing b 9 7 1 2;law price 1000*(size-5);");
        due("at least 0", 0, y.price(0));
        due("at most 999", 999, y.price(1));
        ShadowPool z = pool("thing a 0 3 1 2;thing b 9 7 1 2;law price 20/(size-3);");
        due("with an ERROR", 3, z.price(0));
        due("a law", 5, z.price(1));
    }

    private static void season() {
        ShadowPool x = pool("thing a 0 3 1 2;lamp 0 0;law price 9-(day-3)*(day-4);fog 100;");
        due("season(0, 1, 0)", 0, x.season(0, 1, 0));
        due("season(0, 3, 0)", 2, x.season(0, 3, 0));
        due("season(0, 20, 0): of several the first", 3, x.season(0, 20, 0));
        due("season(0, 20, 1)", 9, x.season(0, 20, 1));
        due("season(0, 0, 0)", -1, x.season(0, 0, 0));
        due("season(0, 21, 0)", -1, x.season(0, 21, 0));
        due("season(1, 1, 0)", -1, x.season(1, 1, 0));
        due("season(0, 1, 2)", -1, x.season(0, 1, 2));
        due("season(0, 1, -1)", -1, x.season(0, 1, -1));
        x.days(5);
        due("from now on", 5, x.season(0, 9, 0));
        ShadowPool y = pool("thing a 0 3 1 2;thing b 9 7 1 1;lamp 0 0;");
        due("as it goes: a has b's tomorrow", 1, y.season(0, 5, 0));
        due("its price", 7, y.season(0, 5, 1));
        due("ahead of dusk", 0, y.season(0, 1, 0));
    }

    private static void whole() {
        ShadowPool x = pool("thing a 0 3 1 2;lamp 0 0;fog 30;");
        due("whole(0, 1, 0)", 7, x.whole(0, 1, 0));
        due("whole(0, 1, 1)", 10, x.whole(0, 1, 1));
        due("whole(0, 4, 0)", 7, x.whole(0, 4, 0));
        due("whole(0, 0, 0)", -1, x.whole(0, 0, 0));
        due("whole(0, 5, 0)", -1, x.whole(0, 5, 0));
        due("whole(1, 1, 0)", -1, x.whole(1, 1, 0));
        due("whole(0, 1, 2)", -1, x.whole(0, 1, 2));
        ShadowPool y = pool("thing a 0 3 1 2;thing b 9 3 1 1;lamp 0 0;fog 1;");
        // a gets the row's first: b's, then a's and so on in turns on days without fog
        due("whole of two days, above", 99 * 99 + 0, y.whole(0, 2, 0));
        due("whole of two days, below", 10000, y.whole(0, 2, 1));
        ShadowPool z = pool("thing a 0 3 1 2;lamp 0 0;fog 100;");
        due("never, above", 0, z.whole(0, 4, 0));
        due("never, below", 1, z.whole(0, 4, 1));
        ShadowPool w = pool("thing a 0 3 1 2;lamp 0 0;");
        due("always, above", 1, w.whole(0, 4, 0));
        due("always, below", 1, w.whole(0, 4, 1));
    }

    /** How many of the first ten numbers from a seed on are no fog of 50. */
    private static int chanceOfOneDay(int seed) {
        long number = seed;
        int times = 0;
        for (int i = 0; i < 10; i++) {
            number = (number * 1103515245L + 12345L) % (1L << 31);
            times += number / 65536 % 100 >= 50 ? 1 : 0;
        }
        return times;
    }

    private static void chance() {
        ShadowPool x = pool("thing a 0 3 1 2;lamp 0 0;fog 50;seed 7;");
        long number = 12345;
        int times = 0;
        for (int i = 0; i < 10; i++) {
            boolean has = true;
            for (int day = 0; day < 3; day++) {
                number = number * 1103515245L + 12345L & 0x7fffffffL;
                has = number / 65536 % 100 >= 50;
            }
            times += has ? 1 : 0;
        }
        due("chance(12345, 3, 1)", times, x.chance(12345, 3, 1));
        due("chance(12345, 3, 0)", 10, x.chance(12345, 3, 0));
        due("chance(12345, 3, 2)", 0, x.chance(12345, 3, 2));
        due("chance(2147483647, 20, 5)", 0, x.chance(2147483647, 20, 5));
        due("chance(0, 1, 1)", chanceOfOneDay(0), x.chance(0, 1, 1));
        due("chance(2147483647, 1, 1)", chanceOfOneDay(2147483647), x.chance(2147483647, 1, 1));
        due("chance(-1, 3, 0)", -1, x.chance(-1, 3, 0));
        due("chance(0, 0, 0)", -1, x.chance(0, 0, 0));
        due("chance(0, 21, 0)", -1, x.chance(0, 21, 0));
        due("chance(0, 1, 6)", -1, x.chance(0, 1, 6));
        due("chance(0, 1, -1)", -1, x.chance(0, 1, -1));
        ShadowPool y = pool("thing a 0 3 1 2;lamp 0 0;fog 50;seed 7;");
        due("the numbers of the days go on as they were", y.days(1) + y.own(), x.days(1) + x.own());
    }

    private static void tried() {
        ShadowPool x = pool("thing a 0 1 1 1;thing b 1 1 1 0;thing c 9 1 1 5 shy;lamp 0 1;lamp 9 0;meet b a;");
        due("tried(0, 0, 0)", 3, x.tried(0, 0, 0));
        due("no meetings", 0, x.tried(0, 0, 1));
        due("reach 29", 2, x.tried(1, 0, 1));
        due("nobody shy", 3, x.tried(2, 0, 1));
        due("c a thief", 3, x.tried(3, 2, 1));
        due("without lamp 0", 0, x.tried(4, 0, 1));
        due("without lamp 1", 2, x.tried(4, 1, 1));
        due("tried(0, 1, 1)", -1, x.tried(0, 1, 1));
        due("tried(1, 1, 1)", -1, x.tried(1, 1, 1));
        due("tried(2, -1, 1)", -1, x.tried(2, -1, 1));
        due("tried(3, 3, 1)", -1, x.tried(3, 3, 1));
        due("tried(3, -1, 1)", -1, x.tried(3, -1, 1));
        due("tried(4, 2, 1)", -1, x.tried(4, 2, 1));
        due("tried(5, 0, 1)", -1, x.tried(5, 0, 1));
        due("tried(-1, 0, 1)", -1, x.tried(-1, 0, 1));
        due("tried(0, 0, 21)", -1, x.tried(0, 0, 21));
        due("tried(0, 0, -1)", -1, x.tried(0, 0, -1));
        due("all is as it was", 2, x.thing(2, 5));
        due("all is as it was", 1, x.lamp(0, 1));
        x.days(1);
        due("all goes as it did", 2, x.own());
        ShadowPool y = pool("thing a 1 1 1 1 shy;thing b 1 1 1 1;lamp 1 1;law late kind;");
        due("kind is as tried", 2, y.tried(2, 0, 1));
    }

    private static void undo() {
        ShadowPool x = pool("thing a 0 1 1 1;thing b 1 1 1 0;thing c 9 1 1 5;lamp 0 1;lamp 9 0;meet a b;meet b c;");
        due("undo() of nothing", -1, x.undo());
        x.hang(0, 7);
        x.turn(0, 1);
        x.trade(0, 2);
        x.meet(1, 0, false);
        x.meet(0, 2, true);
        due("count(9)", 5, x.count(9));
        due("undo the meeting", 4, x.undo());
        due("meets(0, 2)", false, x.meets(0, 2));
        due("undo the parting", 3, x.undo());
        due("meets(0, 1)", true, x.meets(0, 1));
        due("its place among them: swap(0)", 1, x.swap(0));
        due("undo the trade", 2, x.undo());
        due("own()", 3, x.own());
        due("undo the turn", 1, x.undo());
        due("lamp(0, 2)", 0, x.lamp(0, 2));
        due("undo the hanging", 0, x.undo());
        due("lamp(0, 0)", 0, x.lamp(0, 0));
        due("undo() of no more", -1, x.undo());
        x.trade(0, 1);
        x.days(0);
        due("no day went by", 1, x.count(9));
        x.days(1);
        due("a day went by", -1, x.undo());
        for (int i = 1; i <= 22; i++) {
            x.hang(0, i);
            due("count(9)", Math.min(i, 20), x.count(9));
        }
        for (int i = 19; i >= 0; i--) {
            due("undo()", i, x.undo());
        }
        due("20 at most", -1, x.undo());
        due("the first two stay", 2, x.lamp(0, 0));
        undoOfMany();
        x.hang(0, 30);
        x.trade(0, 0);
        due("what was refused is none", 0, x.count(9));
    }

    private static void undoOfMany() {
        ShadowPool x = pool("thing a 0 1 1 1;thing b 1 1 1 0;thing c 9 1 1 5;thing d 9 1 1 5;lamp 0 1;lamp 9 0;meet a d;meet b c;meet d c;");
        x.hang(0, 28);
        x.meet(0, 1, true);
        for (int i = 0; i < 5; i++) {
            x.hang(1, 20 + i);
            x.turn(0, 1);
            x.trade(i % 3, 3);
            x.meet(1, 2, i % 2 == 1);
        }
        for (int i = 19; i >= 0; i--) {
            due("undo() of many", i, x.undo());
        }
        due("the two oldest stay: the lamp", 28, x.lamp(0, 0));
        due("the two oldest stay: the meeting", true, x.meets(0, 1));
        due("lamp(1, 0)", 9, x.lamp(1, 0));
        due("lamp(0, 2)", 0, x.lamp(0, 2));
        due("own()", 4, x.own());
        due("count(2)", 4, x.count(2));
        due("what parted meets again", true, x.meets(1, 2) && x.meets(0, 3) && x.meets(2, 3));
        ShadowPool y = pool("thing a 0 1 1 1;thing b 1 1 1 0;thing c 9 1 1 5;meet a b;meet c b;meet a c;");
        y.meet(0, 1, false);
        y.undo();
        // a has c's, b a's, c b's: by (a b) first, then (b c)
        y.trade(0, 2);
        y.trade(1, 2);
        due("swaps() in the old order", 2, y.swaps());
        due("swap(0) in the old order", 1, y.swap(0));
        due("swap(1) in the old order", 12, y.swap(1));
        due("all three meet", true, y.meets(0, 1) && y.meets(0, 2) && y.meets(1, 2));
    }

    private static void images() {
        ShadowPool x = pool("thing a 0 1 1 1;thing b 1 1 1 0;lamp 0 1;lamp 9 0;meet a b;fog 50;seed 3;");
        due("back() without", -1, x.back());
        x.days(2);
        due("keep()", 2, x.keep());
        int has = x.thing(0, 1) * 10 + x.thing(1, 1);
        x.days(7);
        int later = x.thing(0, 1) * 10 + x.thing(1, 1);
        x.hang(0, 20);
        x.turn(0, 1);
        x.meet(0, 1, false);
        x.see(1, 0, 0);
        due("back()", 2, x.back());
        due("count(5)", 2, x.count(5));
        due("who has what", has, x.thing(0, 1) * 10 + x.thing(1, 1));
        due("lamp(0, 0)", 0, x.lamp(0, 0));
        due("lamp(0, 2)", 0, x.lamp(0, 2));
        due("meets(0, 1)", true, x.meets(0, 1));
        due("nothing to undo", -1, x.undo());
        due("what was seen stays", 1, x.count(7));
        x.days(7);
        due("the numbers go on from there", later, x.thing(0, 1) * 10 + x.thing(1, 1));
        due("back() again", 2, x.back());
        x.days(1);
        due("keep() in place of one ahead", 3, x.keep());
        x.days(1);
        due("back()", 3, x.back());
        x.hang(0, 20);
        x.keep();
        due("keep() leaves what can be undone", 1, x.count(9));
    }

    private static void counts() {
        ShadowPool x = pool(THREE + "rule fit;law price 1+size;");
        int[] of = {3, 2, 1, 2, 3, 0, 0, 0, 0, 0};
        for (int what = 0; what < 10; what++) {
            due("count(" + what + ")", of[what], x.count(what));
        }
        due("count(10)", -1, x.count(10));
        due("count(-1)", -1, x.count(-1));
        x.see(1, 0, 0);
        x.strike(0);
        x.trade(0, 1);
        due("count(7)", 2, x.count(7));
        due("count(8)", 2, x.count(8));
        due("count(9)", 1, x.count(9));
    }
}
