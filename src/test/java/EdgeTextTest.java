import java.nio.charset.StandardCharsets;

/** Each sentence on TEXTS and their FAULTS that names a bound (Terms, ==== 1, promises 1 to 5). */
public final class EdgeTextTest {
    private static final String[] LANGUAGE = {"thing", "lamp", "meet", "rule", "fog", "seed", "law", "thief", "shy", "queue", "stack", "fit", "late", "near",
        "price", "or", "and", "not", "size", "comes", "far", "own", "kind", "day", "which"};
    private static final String AB = "thing a 1 1 1 1;thing b 1 1 1 1;";

    public static void main(String[] args) {
        newObject();
        tapeHoldsSevenHundred();
        bytesTheHighestFirst();
        textOfTooMany();
        textOfTheFirstBytes();
        textBeginsAnew();
        textWithFaultStays();
        faultOfTheLatest();
        namedByLetters();
        numbersOfLines();
        numbersOfLaws();
        howManyLines();
        ownWords();
        wordsOfTheLanguage();
        wordsInTheirPlaces();
        bytesThatAreNoToken();
        blanks();
        moreMustCome();
        whatCantStand();
        grammarOfExpressions();
        expressionsBeginAnew();
        comparisonsInTwoSigns();
        openBrackets();
        knots();
        leastOfOnePlace();
        toldAlready();
        notToldAheadOrOneself();
        withoutLines();
        firstAlongTheText();
        Edges.end();
    }

    /** "A TEXT without LINES; an empty TAPE." */
    private static void newObject() {
        ShadowPool x = new ShadowPool();
        for (int what = 0; what < 10; what++) {
            Edges.due(0, x, "count", what);
        }
        Edges.due(0, x, "fault", 0);
        Edges.due(-1, x, "fault", 1);
        Edges.due(-2, x, "text", 1);
        Edges.due(-2, x, "wall", 0);
        Edges.due(-1, x, "lamp", 0, 0);
        Edges.due(Edges.NO_THING, x, "thing", 0, 0);
        Edges.due(-1, x, "named", 0);
        Edges.due(0, x, "own");
        for (int what = 0; what < 5; what++) {
            Edges.due(-2, x, "best", what);
        }
        Edges.due(0, x, "best", 5);
        Edges.due(-2, x, "hangs", 2);
        Edges.due(0, x, "swaps");
        Edges.due(-2, x, "swap", 0);
        Edges.due(0, x, "sorts");
        Edges.due(0, x, "whose", 0);
        Edges.due(7, x, "rules");
        Edges.due(true, x, "known", -1);
        Edges.due(true, x, "known", 0);
        Edges.due(false, x, "known", 1);
        Edges.due(10, x, "chance", 0, 1, 0);
        Edges.due(0, x, "chance", 0, 1, 1);
        Edges.due(0, x, "tried", 0, 0, 0);
        Edges.due(-1, x, "undo");
        Edges.due(-1, x, "back");
        Edges.due(0, x, "keep");
        Edges.due(0, x, "back");
        Edges.due(20, x, "feed", 0, 0, 0, 0, 0);
        ShadowPool y = new ShadowPool();
        Edges.due(0, y, "text", 0);
        Edges.due(0, y, "fault", 0);
        Edges.due(-1, y, "fault", 1);
    }

    private static void feedBlanks(ShadowPool x, int times) {
        for (int i = 0; i < times; i++) {
            x.feed(0x20202020, 0x0a202020, 0x20200a20, 0x20202020, 0x20202020);
        }
    }

    private static int feedLamp(ShadowPool x) {
        return x.feed(0x20202020, 0x20202020, 0x2020206c, 0x616d7020, 0x3120313b);
    }

    /** "how many it has; NONE, and none come, if it would have more than 700" */
    private static void tapeHoldsSevenHundred() {
        ShadowPool x = new ShadowPool();
        for (int i = 1; i <= 34; i++) {
            Edges.due(20 * i, x, "feed", 0x20202020, 0x20202020, 0x20202020, 0x20202020, 0x20202020);
        }
        Edges.is("the 35th feed", 700, feedLamp(x));
        for (int i = 0; i < 3; i++) {
            Edges.due(-1, x, "feed", 0, -1, Edges.LEAST, Edges.GREATEST, 5);
        }
        Edges.due(-2, x, "text", 701);
        Edges.due(-2, x, "text", 720);
        Edges.due(1, x, "text", 700);
        Edges.due(1, x, "lamp", 0, 1);
        Edges.due(-2, x, "text", 1);
        Edges.is("the first feed anew", 20, feedLamp(x));
        ShadowPool y = new ShadowPool();
        StringBuilder text = new StringBuilder();
        while (text.length() < 691) {
            text.append(' ');
        }
        Edges.is("a text of 700 bytes", 1, Texts.load(y, text + "lamp 2 3;"));
        Edges.is("a FAULT at the last of 700 bytes", -1, Texts.load(y, text + "lamp 2 3@"));
        Edges.due(699, y, "fault", 1);
        Edges.is("a FAULT behind 700 bytes", -1, Texts.load(y, text + " lamp 2 3"));
        Edges.due(700, y, "fault", 1);
    }

    /** "Twenty bytes come behind the TAPE, four of each number, the highest first" */
    private static void bytesTheHighestFirst() {
        int[] numbers = {0x20202020, 0x20202020, 0x20202020, 0x20202020, 0x20202020};
        for (int at = 0; at < 20; at++) {
            for (int b : new int[] {0, 0x7f, 0x80, 0xff}) {
                int[] five = numbers.clone();
                int shift = 24 - 8 * (at % 4);
                five[at / 4] = five[at / 4] & ~(255 << shift) | b << shift;
                ShadowPool x = new ShadowPool();
                Edges.due(20, x, "feed", five[0], five[1], five[2], five[3], five[4]);
                Edges.due(-1, x, "text", 20);
                Edges.due(1, x, "fault", 0);
                Edges.due(at, x, "fault", 1);
            }
        }
        ShadowPool x = new ShadowPool();
        x.feed(0x6c616d70, 0x20312032, 0x3b6c616d, 0x70203320, 0x343b6c61);
        Edges.due(40, x, "feed", 0x6d702035, 0x20363b20, 0x20202020, 0x20202020, 0x20202020);
        Edges.due(3, x, "text", 40);
        Edges.due(5, x, "lamp", 2, 0);
        Edges.due(6, x, "lamp", 2, 1);
    }

    /** "-2, and the TAPE stays: there are not so many, n is below 0" */
    private static void textOfTooMany() {
        ShadowPool x = Edges.pool("thing a 1 1 1 1;");
        Texts.load(x, "fog 101;");
        feedLamp(x);
        Edges.dueBeyond(-2, x, 0, 20, 0, "text", 0);
        Edges.due(2, x, "fault", 0);
        Edges.due(4, x, "fault", 1);
        Edges.due(1, x, "count", 0);
        Edges.is("the tape stays", 40, feedLamp(x));
        Edges.due(2, x, "text", 40);
        Edges.due(-2, x, "text", 1);
        Edges.due(0, x, "fault", 0);
        Edges.due(0, x, "text", 0);
        Edges.due(-2, x, "text", -1);
    }

    /** "The TAPE's first n bytes (it is empty then) are the TEXT": what stands behind them is neither read nor kept. */
    private static void textOfTheFirstBytes() {
        String text = "lamp 1 1;lamp 2 2;@@";
        for (int n = 0; n <= 20; n++) {
            ShadowPool x = new ShadowPool();
            for (int[] five : Texts.fives(text.getBytes(StandardCharsets.ISO_8859_1))) {
                x.feed(five[0], five[1], five[2], five[3], five[4]);
            }
            int lines = n == 0 ? 0 : n == 9 ? 1 : n == 18 ? 2 : -1;
            Edges.due(lines, x, "text", n);
            Edges.due(lines == -1 ? 1 : 0, x, "fault", 0);
            Edges.due(Math.max(0, lines), x, "count", 1);
            Edges.due(-2, x, "text", 1);
            Edges.is("the tape is empty behind text(" + n + ")", 20, feedLamp(x));
        }
        // a word, a number and a sign end where the text ends
        dueCut("thing abcdefg", 12, 1, 12);
        dueCut("lampe", 4, 1, 4);
        dueCut("seed 999999", 10, 1, 10);
        dueCut("law late 99999", 13, 1, 13);
        dueCut("law late 1<=", 11, 1, 11);
        dueCut("law late 1<>", 11, 1, 11);
        dueCut("law late 1>=", 11, 1, 11);
    }

    private static void dueCut(String text, int n, int kind, int place) {
        ShadowPool x = new ShadowPool();
        for (int[] five : Texts.fives(text.getBytes(StandardCharsets.ISO_8859_1))) {
            x.feed(five[0], five[1], five[2], five[3], five[4]);
        }
        Edges.is("text(" + n + ") of " + text, -1, x.text(n));
        Edges.is("fault(0) of " + n + " of " + text, kind, x.fault(0));
        Edges.is("fault(1) of " + n + " of " + text, place, x.fault(1));
    }

    private static ShadowPool used() {
        ShadowPool x = Edges.pool(AB + "lamp 1 1;lamp 9 2;meet a b;rule fit;fog 50;seed 7;law late 1;");
        x.days(3);
        x.keep();
        x.see(1, 0, 0);
        x.see(1, 1, 0);
        x.known(1);
        x.hang(0, 20);
        x.turn(0, 1);
        x.trade(0, 1);
        x.meet(0, 1, false);
        return x;
    }

    /** "DAY 0, all have their own, nothing at the WALL, nothing SEEN, all KNOWN, no IMAGE, nothing to undo then" */
    private static void textBeginsAnew() {
        String[] texts = {AB + "lamp 1 1;lamp 9 2;meet a b;rule fit;fog 50;seed 7;law late 1;", "", AB, "lamp 3 3;", AB + "lamp 1 0;", AB + "lamp 1 0;fog 50;",
            AB + "law near 7;", AB + "law price 5;"};
        for (String text : texts) {
            ShadowPool x = used();
            ShadowPool anew = new ShadowPool();
            Edges.is("LINES of " + text, Texts.load(anew, text), Texts.load(x, text));
            Edges.due(0, x, "count", 5);
            Edges.due(x.count(0), x, "own");
            Edges.due(0, x, "count", 6);
            Edges.due(0, x, "count", 7);
            Edges.due(0, x, "count", 8);
            Edges.due(0, x, "count", 9);
            Edges.due(-1, x, "undo");
            Edges.due(-1, x, "back");
            Edges.is("all is as on a new object behind " + text, Edges.seenOf(anew), Edges.seenOf(x));
            x.days(20);
            anew.days(20);
            Edges.is("the numbers begin with the seed of " + text, Edges.seenOf(anew), Edges.seenOf(x));
        }
        // nothing of an older TEXT's rule, fog, seed and laws
        ShadowPool older = Edges.pool(AB + "lamp 1 0;rule stack;fog 100;seed 99999;law late 1;law near 2;law price 3;");
        Texts.load(older, AB + "lamp 1 0;");
        Edges.due(0, older, "count", 3);
        Edges.due(0, older, "count", 4);
        for (int what = 0; what < 3; what++) {
            Edges.due(Long.MIN_VALUE, older, "law", what, 0, 0);
        }
        Edges.due(1, older, "price", 0);
        Edges.due(1, older, "whole", 0, 1, 1);
        older.days(1);
        Edges.due(2, older, "own");
        ShadowPool unseeded = Edges.pool("seed 99999;");
        ShadowPool fresh = new ShadowPool();
        for (ShadowPool each : new ShadowPool[] {unseeded, fresh}) {
            Texts.load(each, AB + "lamp 1 0;fog 50;");
        }
        for (int i = 0; i < 30; i++) {
            unseeded.days(1);
            fresh.days(1);
            Edges.is("no seed of an older TEXT, day " + i, fresh.own(), unseeded.own());
        }
        ShadowPool x = used();
        Texts.load(x, AB);
        x.see(1, 0, 0);
        Edges.due(1, x, "count", 8);
        x.see(1, 0, 0);
        // by all, also those to come
        Edges.due(2, x, "count", 8);
    }

    /** "NONE with a FAULT, all stays" */
    private static void textWithFaultStays() {
        for (String text : new String[] {"@", "thing a 1 1 1 1;fog 101;", AB + "meet a a;", AB + "meet a c;", "rule fit;rule fit;", "law late 1;law price 1"}) {
            for (int view = 0; view < 3; view++) {
                ShadowPool x = used();
                ShadowPool plain = used();
                Edges.is("text of " + text, -1, Texts.load(x, text));
                Edges.due(-2, x, "text", 1);
                if (view == 1) {
                    Edges.is("the latest undone behind " + text, plain.undo(), x.undo());
                }
                if (view == 2) {
                    Edges.is("the IMAGE behind " + text, plain.back(), x.back());
                }
                Edges.is("what is seen behind " + text, Edges.seenOf(plain), Edges.seenOf(x));
                x.days(9);
                plain.days(9);
                Edges.is("some days behind " + text, Edges.seenOf(plain), Edges.seenOf(x));
            }
        }
    }

    /** "Of the latest text() that was not -2 ... its FAULT (0) ... its place (NONE without). NONE for another what." */
    private static void faultOfTheLatest() {
        ShadowPool x = new ShadowPool();
        Edges.dueBeyond(-1, x, 0, 1, 0, "fault", 0);
        Texts.load(x, "@");
        Edges.due(1, x, "fault", 0);
        Edges.due(0, x, "fault", 1);
        Edges.dueBeyond(-1, x, 0, 1, 0, "fault", 0);
        x.text(1);
        x.text(-1);
        Edges.due(1, x, "fault", 0);
        Edges.due(0, x, "fault", 1);
        Texts.load(x, "seed 100000;");
        Edges.due(2, x, "fault", 0);
        Edges.due(5, x, "fault", 1);
        Texts.load(x, "seed 99999;");
        Edges.due(0, x, "fault", 0);
        Edges.due(-1, x, "fault", 1);
        Texts.load(x, "@");
        x.text(0);
        Edges.due(0, x, "fault", 0);
        Edges.due(-1, x, "fault", 1);
    }

    private static int letters(String name) {
        int letters = 0;
        for (int i = 0; i < 6; i++) {
            letters = letters << 5 | (i < name.length() ? name.charAt(i) - 'a' + 1 : 0);
        }
        return letters;
    }

    /** "5 bits each (a is 1; the first one highest of six, 0 behind the last one); NONE: there is none such" */
    private static void namedByLetters() {
        ShadowPool x = Edges.pool("thing a 1 1 1 1;thing zzzzzz 1 1 1 1;thing az 1 1 1 1;thing za 1 1 1 1;thing things 1 1 1 1;");
        String[] names = {"a", "zzzzzz", "az", "za", "things"};
        for (int i = 0; i < names.length; i++) {
            Edges.due(i, x, "named", letters(names[i]));
            Edges.due(-1, x, "named", letters(names[i]) | 1 << 30);
            Edges.due(-1, x, "named", letters(names[i]) | Edges.LEAST);
            Edges.due(-1, x, "named", letters(names[i]) >> 5);
        }
        for (String name : new String[] {"b", "aa", "zzzzz", "z", "thing", "aza", "zzzzzy"}) {
            Edges.due(-1, x, "named", letters(name));
        }
        Edges.due(-1, x, "named", 1);
        Edges.due(-1, x, "named", 0);
        Edges.due(-1, x, "named", -1);
        Edges.due(-1, x, "named", Edges.LEAST);
        Edges.due(-1, x, "named", Edges.GREATEST);
        Edges.due(-1, x, "named", 1 << 25 | 1);
        Edges.due(-1, x, "named", 27 << 25);
        Texts.load(x, "thing z 1 1 1 1;");
        Edges.due(-1, x, "named", letters("a"));
        Edges.due(0, x, "named", letters("z"));
        Texts.load(x, "thing a 1 1 1 1;@");
        Edges.due(-1, x, "named", letters("a"));
    }

    /** A number of a LINE: its bounds stand, what is beyond them is FAULT 2 at it, also where it would fit if bits were cut off. */
    private static void dueBounds(String ahead, String behind, int least, int most) {
        for (String zeros : new String[] {"", "0", "00000000000000000000000000"}) {
            Edges.is("LINES of " + ahead + zeros + least, true, Texts.load(new ShadowPool(), ahead + zeros + least + behind) > 0);
            Edges.is("LINES of " + ahead + zeros + most, true, Texts.load(new ShadowPool(), ahead + zeros + most + behind) > 0);
            Edges.dueFault(2, ahead.length(), ahead + zeros + (most + 1) + behind);
        }
        if (least > 0) {
            Edges.dueFault(2, ahead.length(), ahead + (least - 1) + behind);
            Edges.dueFault(2, ahead.length(), ahead + "0000" + behind);
        }
        java.math.BigInteger fits = java.math.BigInteger.valueOf(least + 1);
        for (int bits : new int[] {8, 15, 16, 31, 32, 63, 64, 128}) {
            Edges.dueFault(2, ahead.length(), ahead + fits.add(java.math.BigInteger.ONE.shiftLeft(bits).multiply(java.math.BigInteger.valueOf(512))) + behind);
            Edges.dueFault(2, ahead.length(), ahead + fits.add(java.math.BigInteger.ONE.shiftLeft(Math.max(20, bits))) + behind);
        }
        Edges.dueFault(2, ahead.length(), ahead + "9".repeat(500) + behind);
        Edges.dueFault(2, ahead.length(), ahead + "9".repeat(100) + "@");
        Edges.dueFault(1, ahead.length(), ahead + "-1" + behind);
        Edges.dueFault(1, ahead.length(), ahead + "+1" + behind);
        Edges.dueFault(1, ahead.length(), ahead + "a" + behind);
        Edges.dueFault(1, ahead.length(), ahead + ";");
    }

    /** "PLACE 0 .. 29, SIZE 1 .. 9 and SHAPE 0 .. 511 ... COMES 0 .. 9 ... REACH 0 .. 29 ... fog: of a hundred 0 .. 100 ... seed: 0 .. 99999" */
    private static void numbersOfLines() {
        dueBounds("thing a ", " 5 5 5;", 0, 29);
        dueBounds("thing a 5 ", " 5 5;", 1, 9);
        dueBounds("thing a 5 5 ", " 5;", 0, 511);
        dueBounds("thing a 5 5 5 ", ";", 0, 9);
        dueBounds("lamp ", " 5;", 0, 29);
        dueBounds("lamp 5 ", ";", 0, 29);
        dueBounds("fog ", ";", 0, 100);
        dueBounds("seed ", ";", 0, 99999);
        ShadowPool x = Edges.pool("thing a 29 9 511 9 thief;thing b 0 1 0 0 shy;lamp 0 29;lamp 29 0;");
        int[][] of = {{29, 0, 9, 511, 9, 1}, {0, 1, 1, 0, 0, 2}};
        for (int thing = 0; thing < 2; thing++) {
            for (int what = 0; what < 6; what++) {
                Edges.due(of[thing][what], x, "thing", thing, what);
            }
        }
        Edges.due(0, x, "lamp", 0, 0);
        Edges.due(29, x, "lamp", 0, 1);
        Edges.due(29, x, "lamp", 1, 0);
        Edges.due(0, x, "lamp", 1, 1);
    }

    /** "N of E 0 .. 9999" */
    private static void numbersOfLaws() {
        dueBounds("law late ", ";", 0, 9999);
        dueBounds("law near 1+(2*", ");", 0, 9999);
        dueBounds("law price not ", "<5 and 1;", 0, 9999);
        Edges.is("9999", 9999L, Edges.pool("thing a 1 1 1 1;law late 9999;").law(0, 0, 0));
        Edges.is("0009999", 9999L, Edges.pool("thing a 1 1 1 1;law late 0009999;").law(0, 0, 0));
        Edges.is("0", 0L, Edges.pool("thing a 1 1 1 1;law late 0;").law(0, 0, 0));
    }

    private static String things(int n) {
        StringBuilder s = new StringBuilder();
        for (int i = 0; i < n; i++) {
            s.append("thing ").append((char) ('a' + i)).append(" 1 1 1 1;");
        }
        return s.toString();
    }

    /** "THINGS, at most 5 ... LAMPS, at most 5 ... MEETINGS, at most 10"; "a sixth thing and so on (at the word of the LINE)" */
    private static void howManyLines() {
        for (int n = 0; n <= 5; n++) {
            Edges.dueLines(n, things(n));
            Edges.is("things", n, Edges.pool(things(n)).count(0));
            Edges.dueLines(n, "lamp 1 1;".repeat(n));
            Edges.is("lamps", n, Edges.pool("lamp 1 1;".repeat(n)).count(1));
        }
        String five = things(5);
        for (String rest : new String[] {" f 1 1 1 1;", "", " a 1 1 1 1;", " 7;", "@", " f 99 1 1 1;", ";"}) {
            Edges.dueFault(2, five.length(), five + "thing" + rest);
            Edges.dueFault(2, five.length() + 2, five + " \nthing" + rest);
        }
        for (String rest : new String[] {" 1 1;", "", " 99 1;", "@", ";"}) {
            Edges.dueFault(2, 45, "lamp 1 1;".repeat(5) + "lamp" + rest);
        }
        Edges.dueFault(2, 45, "lamp 1 1;".repeat(9));
        StringBuilder ten = new StringBuilder(five);
        for (int one = 0; one < 5; one++) {
            for (int other = one + 1; other < 5; other++) {
                Edges.is("meetings", (ten.length() - five.length()) / 9, Edges.pool(ten.toString()).count(2));
                ten.append("meet ").append((char) ('a' + other)).append(' ').append((char) ('a' + one)).append(';');
            }
        }
        Edges.dueLines(15, ten.toString());
        Edges.is("ten meetings", 10, Edges.pool(ten.toString()).count(2));
        for (String rest : new String[] {" a b;", "", " a a;", " a z;", "@", ";"}) {
            Edges.dueFault(2, ten.length(), ten + "meet" + rest);
        }
    }

    /** "W: one of 1 .. 6 letters, none of those of the language"; "a word of more than 6 letters that isn't of the language, too" */
    private static void ownWords() {
        for (int letters = 1; letters <= 6; letters++) {
            Edges.dueLines(1, "thing " + "q".repeat(letters) + " 1 1 1 1;");
        }
        for (int letters : new int[] {7, 8, 12, 32, 100, 600}) {
            Edges.dueFault(1, 6, "thing " + "q".repeat(letters) + " 1 1 1 1;");
            Edges.dueFault(1, 0, "q".repeat(letters));
            Edges.dueFault(1, 5, "meet " + "q".repeat(letters));
            Edges.dueFault(1, 9, "law late " + "q".repeat(letters));
            Edges.dueFault(1, 16, "thing a 1 1 1 1 " + "q".repeat(letters));
        }
        // longer words whose first six letters are a told name are another word
        Edges.dueFault(1, 26, "thing abcdef 1 1 1 1;meet abcdefg abcdef;");
        Edges.dueFault(1, 5 + AB.length(), AB + "meet aaaaaaa b;");
        Edges.dueFault(1, 7 + AB.length(), AB + "meet a bbbbbbb;");
        for (char c = 'a'; c <= 'z'; c++) {
            Edges.dueLines(1, "thing " + c + " 1 1 1 1;");
            Edges.dueFault(1, 6, "thing " + (char) (c - 32) + " 1 1 1 1;");
        }
        Edges.dueFault(1, 6, "thing `b 1 1 1 1;");
        Edges.dueFault(1, 6, "thing {b 1 1 1 1;");
        // a digit ends a word, so this is a THING a at PLACE 1
        Edges.dueLines(1, "thing a1 1 1 1;");
        Edges.dueFault(1, 8, "thing a1b 1 1 1;");
    }

    private static void wordsOfTheLanguage() {
        for (String word : LANGUAGE) {
            Edges.dueFault(1, 6, "thing " + word + " 1 1 1 1;");
            Edges.dueFault(1, 5 + AB.length(), AB + "meet " + word + " b;");
            Edges.dueFault(1, 7 + AB.length(), AB + "meet a " + word + ";");
            Edges.dueLines(1, "thing " + word + "x 1 1 1 1;");
            Edges.dueLines(1, "thing x" + word + " 1 1 1 1;");
            String cut = word.substring(0, word.length() - 1);
            Edges.dueLines(1, "thing " + cut + " 1 1 1 1;");
        }
    }

    private static boolean isIn(String word, String... words) {
        return java.util.Arrays.asList(words).contains(word);
    }

    /** Each word of the language stands where the grammar has it, and nowhere else. */
    private static void wordsInTheirPlaces() {
        for (String word : LANGUAGE) {
            boolean operand = isIn(word, "not", "size", "comes", "far", "own", "kind", "day", "which");
            dueWord(isIn(word, "thing", "lamp", "meet", "rule", "fog", "seed", "law"), "", word);
            dueWord(isIn(word, "thief", "shy"), "thing a 1 1 1 1 ", word);
            dueWord(false, "thing a 1 1 1 1 shy ", word);
            dueWord(false, "thing a 1 1 1 ", word);
            dueWord(false, "lamp ", word);
            dueWord(false, "lamp 1 1 ", word);
            dueWord(isIn(word, "queue", "stack", "fit"), "rule ", word);
            dueWord(false, "rule fit ", word);
            dueWord(false, "fog ", word);
            dueWord(false, "seed ", word);
            dueWord(isIn(word, "late", "near", "price"), "law ", word);
            dueWord(operand, "law late ", word);
            dueWord(operand, "law late (", word);
            dueWord(operand, "law late not ", word);
            dueWord(operand, "law late 1 and ", word);
            dueWord(operand, "law late 1 or ", word);
            dueWord(operand && !word.equals("not"), "law late 1 + ", word);
            dueWord(operand && !word.equals("not"), "law late 1 < ", word);
            dueWord(isIn(word, "and", "or"), "law late 1 ", word);
            dueWord(isIn(word, "and", "or"), "law late size ", word);
            dueWord(isIn(word, "and", "or"), "law late (1) ", word);
        }
    }

    /** A word that may stand is followed by a FAULT behind it, as the text ends there; one that may not is the FAULT. */
    private static void dueWord(boolean stands, String ahead, String word) {
        Edges.dueFault(1, stands ? ahead.length() + word.length() : ahead.length(), ahead + word);
        Edges.dueFault(1, stands ? ahead.length() + word.length() + 1 : ahead.length(), ahead + word + " @");
    }

    /** "1 a TOKEN that is none": each byte that begins none, where a LINE, a word, a number, a sign or an E is due. */
    private static void bytesThatAreNoToken() {
        String[] aheads = {"", "lamp 1 1;", "thing ", "thing a ", "thing a 1 1 1 1", "thing a 1 1 1 1 shy", "lamp 1 ", "meet ", "rule ", "fog ", "seed ", "law ", "law late ", "law late 1", "law late (1"};
        for (int b = 0; b < 256; b++) {
            boolean letter = b >= 'a' && b <= 'z';
            boolean digit = b >= '0' && b <= '9';
            boolean sign = ";()<>=+-*/".indexOf((char) b) >= 0;
            if (letter || digit || sign || b == 10 || b == 32) {
                continue;
            }
            for (String ahead : aheads) {
                Edges.dueFault(1, ahead.length(), ahead + (char) b);
                Edges.dueFault(1, ahead.length(), ahead + (char) b + "lamp 1 1;");
            }
        }
        for (char sign : ";()<>=+-*/0123456789".toCharArray()) {
            Edges.dueFault(1, 0, sign + "lamp 1 1;");
            Edges.dueFault(1, 9, "lamp 1 1;" + sign);
            Edges.dueFault(1, 5, "rule " + sign);
        }
    }

    /** "Blanks 10, 32": as many as one likes between TOKENS, none needed but between words or between numbers. */
    private static void blanks() {
        Edges.dueLines(0, " ");
        Edges.dueLines(0, "\n \n\n  ");
        Edges.dueLines(8, "\n thing\na\n1 1\n1 1\n;  thing b  1  1 1 1 thief ;lamp 1 1 ;lamp\n1\n1\n;meet a b\n;rule  fit\n;fog\n5 ; law\nlate ( 1 )\n<=\n2 ; \n");
        Edges.dueLines(3, "thing a1 1 1 1shy;lamp1 1;law late(1)and(not 2)or 3;");
        Edges.dueLines(1, "law price 1<2and 3or 4and not 5;");
        Edges.dueFault(1, 7, "lamp 11;");
        Edges.dueFault(1, 0, "lam p 1 1;");
        Edges.dueFault(1, 11, "law late 1 1;");
        Edges.dueFault(1, 5, "rule fitfit;");
    }

    /** "can't stand there (the length, if more must come)" */
    private static void moreMustCome() {
        String[] lines = {"thing a 1 1 1 1 shy ;", "lamp 1 1 ;", "rule fit ;", "fog 1 ;", "seed 1 ;", "law late not ( 1 + size ) <= 2 and 3 or 4 ;", "thing b 1 1 1 1 ;", "meet a b ;"};
        StringBuilder ahead = new StringBuilder();
        for (String line : lines) {
            String[] tokens = line.split(" ");
            StringBuilder part = new StringBuilder(ahead);
            for (int i = 0; i < tokens.length - 1; i++) {
                part.append(tokens[i]);
                Edges.dueFault(1, part.length(), part.toString());
                part.append(' ');
                Edges.dueFault(1, part.length(), part.toString());
                Edges.dueFault(1, part.length() + 2, part + "\n ");
            }
            ahead.append(line);
        }
        Edges.dueLines(8, ahead.toString());
    }

    /** "a TOKEN that ... can't stand there": in place of each TOKEN of a LINE, one of another kind. */
    private static void whatCantStand() {
        String[] lines = {"thing a 1 1 1 1 shy ;", "lamp 1 1 ;", "rule fit ;", "fog 1 ;", "seed 1 ;", "law late ( 1 + size ) <= 2 ;", "meet b c ;"};
        String ahead = "thing b 1 1 1 1;thing c 1 1 1 1;";
        String[] others = {"7", "x", ";", "(", ")", "+", "<", "=", "and", "thing", "late", "queue", "thief", "not", "size"};
        for (String line : lines) {
            String[] tokens = line.split(" ");
            int place = ahead.length();
            for (int i = 0; i < tokens.length; i++) {
                for (String other : others) {
                    String got = ahead + String.join(" ", java.util.Arrays.copyOf(tokens, i)) + (i > 0 ? " " : "") + other;
                    if (!mayStand(line, tokens, i, other)) {
                        Edges.dueFault(1, place, got);
                        Edges.dueFault(1, place, got + " ;");
                    }
                }
                place += tokens[i].length() + 1;
            }
        }
    }

    private static boolean mayStand(String line, String[] tokens, int i, String other) {
        String word = tokens[0];
        boolean number = other.equals("7");
        if (i == 0) {
            return other.equals("thing");
        }
        if (word.equals("law")) {
            if (i == 1) {
                return other.equals("late");
            }
            boolean operandDue = i == 2 || i == 3 || i == 5 || i == 8;
            boolean inside = i > 2 && i <= 6;
            if (operandDue) {
                boolean notMay = other.equals("not") && (i == 2 || i == 3);
                return number || other.equals("(") || other.equals("size") || notMay;
            }
            boolean end = !inside && other.equals(";") || inside && other.equals(")");
            boolean compares = (other.equals("<") || other.equals("=")) && i != 9;
            return end || compares || other.equals("+") || other.equals("and");
        }
        switch (tokens[i]) {
            case "1":
                return number;
            case "a":
                return other.equals("x");
            case "b":
            case "c":
                // a word that is no THING's is another FAULT
                return other.equals("x");
            case "fit":
                return other.equals("queue");
            case "shy":
                return other.equals("thief") || other.equals(";");
            default:
                return other.equals(";");
        }
    }

    private static void stands(String expression) {
        Edges.dueLines(1, "law late " + expression + ";");
    }

    private static void falls(int place, String expression) {
        Edges.dueFault(1, 9 + place, "law late " + expression + ";");
    }

    /** "E: A { or A }. A: B { and B }. B: not B | C. C: S [ .. S ]. S: T { .. T }. T: P { .. P }. P: N | NAME | '(' E ')'" */
    private static void grammarOfExpressions() {
        for (String name : new String[] {"size", "comes", "far", "own", "kind", "day", "which", "0", "(1)"}) {
            stands(name);
            stands(name + "+" + name + "*" + name);
            stands("not " + name);
        }
        for (String sign : new String[] {"<", "<=", "=", "<>", ">=", ">", "+", "-", "*", "/", " and ", " or "}) {
            stands("1" + sign + "2");
            stands("(1)" + sign + "(2)");
            falls(1 + sign.length(), "1" + sign);
            falls(sign.startsWith(" ") ? 1 : 0, sign + "1");
            falls(1 + sign.length(), "1" + sign + ")");
            falls(2 + sign.length(), "(1" + sign + ")");
        }
        stands("not not not 1");
        stands("1 and not 2");
        stands("1 or not 2");
        stands("not (1) and (not 2)");
        stands("not 1<2");
        // inside '(' an E begins anew
        for (String sign : new String[] {"<", "<=", "=", "<>", ">=", ">", "+", "-", "*", "/"}) {
            stands("1" + sign + "(not 2)");
            stands("1" + sign + "(2<3)");
            stands("1" + sign + "((not 2 and 3))");
        }
        stands("1<2 and 3<4 or 5<6");
        stands("(1<2)<3");
        stands("1<(2<3)");
        stands("1+2<3*4");
        for (String sign : new String[] {"<", "<=", "=", "<>", ">=", ">", "+", "-", "*", "/"}) {
            falls(1 + sign.length(), "1" + sign + "not 2");
        }
        for (String sign : new String[] {"<", "<=", "=", "<>", ">=", ">"}) {
            falls(3, "1<2" + sign + "3");
            falls(2 + sign.length(), "1" + sign + "2=3");
            falls(6, "1+1<22" + sign + "3");
            falls(4, "(1<2" + sign + "3)");
            falls(7, "not 1<2" + sign + "3");
            falls(9, "1 and 1=2" + sign + "3");
        }
        falls(0, "");
        falls(0, ")");
        falls(1, "()");
        falls(1, "(");
        falls(2, "(1");
        falls(1, "1)");
        falls(3, "(1))");
        falls(1, "1(2)");
        falls(3, "(1)2");
        falls(3, "(1)(2)");
        falls(2, "1 size");
        falls(2, "1 not 2");
        falls(3, "not");
        falls(3, "not)");
        falls(2, "1 late");
        falls(0, "late");
        falls(0, "thief");
        falls(2, "1++2");
        falls(2, "1*-2");
        falls(0, "-2");
    }

    /** A FAULT within an E leaves nothing behind for the next TEXT. */
    private static void expressionsBeginAnew() {
        for (String spoilt : new String[] {"law late 1+2*(3-(4@", "law late not not 1 and (", "law late ((((((((1", "law late " + "1+".repeat(40), "law late 1<2<3;"}) {
            ShadowPool x = new ShadowPool();
            Edges.is("text of " + spoilt, -1, Texts.load(x, spoilt));
            Edges.is("a good one behind " + spoilt, 3, Texts.load(x, "thing a 1 1 1 1;law late 5;law price ((((((((6))))))));"));
            Edges.due(5L, x, "law", 0, 0, 0);
            Edges.due(6L, x, "law", 1, 0, 0);
            Edges.due(2, x, "count", 4);
            Edges.is("64 KNOTS behind " + spoilt, 1, Texts.load(x, "law near not " + "1+".repeat(31) + "1;"));
        }
    }

    /** "A = (or > behind <) right behind < or > belongs to it." */
    private static void comparisonsInTwoSigns() {
        stands("1<=2");
        stands("1<>2");
        stands("1>=2");
        falls(3, "1< =2");
        falls(3, "1<\n>2");
        falls(4, "1 > =2");
        falls(2, "1><2");
        falls(2, "1>>2");
        falls(2, "1<<2");
        falls(2, "1=<2");
        falls(2, "1=>2");
        falls(2, "1==2");
        falls(3, "1<=>2");
        falls(3, "1<>=2");
        falls(3, "1<==2");
        falls(3, "1>==2");
        falls(3, "1<>>2");
    }

    /** "a ninth '(' open" */
    private static void openBrackets() {
        for (int n = 1; n <= 8; n++) {
            stands("(".repeat(n) + "1" + ")".repeat(n));
            stands("1+" + "(".repeat(n) + "1" + ")".repeat(n) + "*" + "(".repeat(n) + "1" + ")".repeat(n));
        }
        Edges.dueFault(2, 17, "law late (((((((((1)))))))));");
        Edges.dueFault(2, 17, "law late (((((((((");
        Edges.dueFault(2, 17, "law late ((((((((((((((((((((((((1");
        Edges.dueFault(2, 19, "law late (((((((1+((1)))))))));");
        // closed ones aren't open: eight, one closed, one opened, then one too many
        stands("((((((((1)+(2))))))))");
        Edges.dueFault(2, 9 + 12, "law late ((((((((1)+((2)))))))));");
        // each E begins with none open
        Edges.dueLines(2, "law late ((((((((1))))))));law near ((((((((1))))))));");
        Edges.dueFault(1, 10, "law late 1(((((((((");
    }

    private static void dueKnots(int knots, String expression) {
        Edges.is("KNOTS of " + expression, knots, Edges.pool("law near " + expression + ";").count(4));
    }

    /** "a 65th KNOT of all E (N, NAMES, signs, not, and, or: one each)" */
    private static void knots() {
        dueKnots(1, "5");
        dueKnots(1, "size");
        dueKnots(1, "((((5))))");
        dueKnots(2, "not 5");
        dueKnots(5, "not not not not 5");
        for (String sign : new String[] {"<", "<=", "=", "<>", ">=", ">", "+", "-", "*", "/", " and ", " or "}) {
            dueKnots(3, "1" + sign + "2");
        }
        dueKnots(64, "not " + "1+".repeat(31) + "1");
        dueKnots(64, "not ".repeat(63) + "day");
        dueKnots(63, "1 or ".repeat(31) + "1");
        // each kind of KNOT as the 65th, at it
        String ones = "law late " + "1+".repeat(31) + "1";
        String notOnes = "law late not " + "1+".repeat(31) + "1";
        for (String sign : new String[] {"<", "<=", "=", "<>", ">=", ">", "+", "-", "*", "/", "and", "or"}) {
            Edges.dueFault(2, notOnes.length() + 1, notOnes + " " + sign + " 1;");
            Edges.dueFault(2, notOnes.length() + 1, notOnes + " " + sign);
            Edges.dueFault(2, ones.length() + sign.length() + 2, ones + " " + sign + " 1;");
            Edges.dueFault(2, ones.length() + sign.length() + 2, ones + " " + sign + " size@");
            Edges.dueFault(1, ones.length() + sign.length() + 2, ones + " " + sign + " ;");
        }
        Edges.dueFault(2, ones.length() + 5, ones + " and not 1;");
        Edges.dueFault(2, 9 + 4 * 64, "law late " + "not ".repeat(64) + "1;");
        Edges.dueFault(2, 9 + 4 * 64, "law late " + "not ".repeat(65) + "1;");
        // of all E together
        Edges.dueLines(3, "law late " + "1+".repeat(10) + "1;law near " + "1+".repeat(10) + "1;law price not " + "1+".repeat(10) + "1;");
        String two = "law late " + "1+".repeat(10) + "1;law near " + "1+".repeat(10) + "1;";
        Edges.dueFault(2, two.length() + "law price not not ".length() + 20, two + "law price not not " + "1+".repeat(10) + "1;");
        Edges.dueFault(2, 9 + 63 + 2 + 9, "law late " + "1+".repeat(31) + "1;law near 1+1;");
    }

    /** "the first along the text (of one place the least)" */
    private static void leastOfOnePlace() {
        String full = "law late not " + "1+".repeat(31) + "1";
        String almost = "law late not " + "1+".repeat(30) + "1<1";
        // a 65th KNOT that can't stand there
        Edges.dueFault(1, full.length() + 1, full + " 1;");
        Edges.dueFault(1, full.length() + 1, full + " 10000;");
        Edges.dueFault(1, full.length() + 1, full + " not 1;");
        Edges.dueFault(1, full.length() + 1, full + " size;");
        Edges.dueFault(1, almost.length() + 1, almost + " < 1;");
        Edges.dueFault(1, 9 + 64, "law late " + "1+".repeat(32) + "* 1;");
        // a number beyond, where none can stand
        Edges.dueFault(1, 11, "law late 1 10000;");
        Edges.dueFault(1, 9, "lamp 1 1 999999;");
        Edges.dueFault(1, 6, "thing 999999 1 1 1 1;");
        Edges.dueFault(1, 5, "rule 999999;");
        // a ninth '(' where none can stand
        Edges.dueFault(1, 18, "law late ((((((((1(2))))))))));");
        // a number beyond as the 65th KNOT is of one FAULT anyhow
        Edges.dueFault(2, 9 + 64, "law late " + "1+".repeat(32) + "99999;");
    }

    /** "3 told already: a THING's name (at W), a MEETING of the same two (at the second W), rule, fog, seed (at the word), a law of its KIND (at KIND)" */
    private static void toldAlready() {
        int ab = AB.length();
        for (int i = 0; i < 2; i++) {
            String name = i == 0 ? "a" : "b";
            for (String rest : new String[] {" 1 1 1 1;", "", ";", " 99"}) {
                Edges.dueFault(3, ab + 6, AB + "thing " + name + rest);
            }
        }
        Edges.dueFault(3, 6 + 21, "thing abcdef 1 1 1 1;thing abcdef 1 1 1 1;");
        Edges.dueLines(2, "thing abcde 1 1 1 1;thing abcdef 1 1 1 1;");
        Edges.dueLines(2, "thing ab 1 1 1 1;thing ba 1 1 1 1;");
        for (String first : new String[] {"a b", "b a"}) {
            for (String second : new String[] {"a b", "b a"}) {
                Edges.dueFault(3, ab + 9 + 7, AB + "meet " + first + ";meet " + second + ";");
                Edges.dueFault(3, ab + 9 + 7, AB + "meet " + first + ";meet " + second);
            }
        }
        Edges.dueLines(6, things(3) + "meet a b;meet b c;meet a c;");
        for (String line : new String[] {"rule queue", "rule stack", "fog 0", "fog 100", "seed 0", "seed 99999"}) {
            String word = line.substring(0, line.indexOf(' '));
            for (String rest : new String[] {"", ";", " 5;", " queue;", "@"}) {
                Edges.dueFault(3, line.length() + 1, line + ";" + word + rest);
                Edges.dueFault(3, line.length() + 10, line + ";lamp 1 1;" + word + rest);
            }
        }
        for (String kind : new String[] {"late", "near", "price"}) {
            for (String rest : new String[] {" 1;", "", ";", "@", " 99999;"}) {
                Edges.dueFault(3, 4 + kind.length() + 3 + 4, "law " + kind + " 1;law " + kind + rest);
            }
        }
        Edges.dueLines(3, "law late 1;law near 1;law price 1;");
    }

    /** "4 a THING that isn't told ahead (at W). 5 a MEETING with oneself (at the second W)." */
    private static void notToldAheadOrOneself() {
        int ab = AB.length();
        Edges.dueFault(4, 5, "meet a b;");
        Edges.dueFault(4, 5, "meet a b;" + AB);
        Edges.dueFault(4, 5, "meet a a;");
        Edges.dueFault(4, ab + 5, AB + "meet c a;");
        Edges.dueFault(4, ab + 7, AB + "meet a c;");
        Edges.dueFault(4, ab + 7, AB + "meet a c;thing c 1 1 1 1;");
        Edges.dueFault(4, ab + 5, AB + "meet c c;");
        Edges.dueFault(4, ab + 5, AB + "meet ab b;");
        Edges.dueFault(4, ab + 7, AB + "meet b aa");
        Edges.dueFault(5, ab + 7, AB + "meet a a;");
        Edges.dueFault(5, ab + 7, AB + "meet b b");
        Edges.dueFault(5, ab + 9 + 7, AB + "meet a b;meet a a;");
        // those of an older TEXT don't count
        ShadowPool x = Edges.pool(AB);
        Edges.is("a THING of an older TEXT", -1, Texts.load(x, "meet a b;"));
        Edges.due(4, x, "fault", 0);
    }

    /** "rule: 0 queue, 1 stack, 2 fit (0 without). fog: of a hundred 0 .. 100 (0). seed: 0 .. 99999 (0). All numbered as they come" */
    private static void withoutLines() {
        Edges.is("no rule", 0, Edges.pool(AB).count(3));
        Edges.is("queue", 0, Edges.pool("rule queue;").count(3));
        Edges.is("stack", 1, Edges.pool("rule stack;").count(3));
        Edges.is("fit", 2, Edges.pool("rule fit;").count(3));
        String lit = "thing a 5 1 1 1;lamp 5 0;";
        Edges.is("no fog: always its own", "1 1", Edges.pool(lit).whole(0, 4, 0) + " " + Edges.pool(lit).whole(0, 4, 1));
        for (int seed : new int[] {0, 99999}) {
            ShadowPool x = Edges.pool(lit + "fog 50;" + (seed == 0 ? "" : "seed 99999;"));
            ShadowPool y = Edges.pool(lit + "seed " + seed + ";fog 50;");
            for (int i = 0; i < 20; i++) {
                x.days(1);
                y.days(1);
                Edges.is("the seed without is 0", y.own(), x.own());
            }
        }
        ShadowPool x = Edges.pool("lamp 1 2;thing b 3 4 5 6;rule fit;lamp 7 8;thing a 9 1 2 3;");
        Edges.due(0, x, "named", 2 << 25);
        Edges.due(1, x, "named", 1 << 25);
        Edges.due(3, x, "thing", 0, 0);
        Edges.due(9, x, "thing", 1, 0);
        Edges.due(1, x, "lamp", 0, 0);
        Edges.due(7, x, "lamp", 1, 0);
        Edges.due(0, x, "lamp", 0, 2);
        Edges.due(1, x, "lamp", 1, 2);
    }

    private static void firstAlongTheText() {
        Edges.dueFault(2, 5, "lamp 99 1;@");
        Edges.dueFault(1, 9, "lamp 9 1;@ lamp 99 1;");
        Edges.dueFault(5, AB.length() + 7, AB + "meet a a;meet c c;rule;");
        Edges.dueFault(4, AB.length() + 5, AB + "meet c a;meet a a;rule;");
        Edges.dueFault(3, 14, "fog 5;seed 1; fog 1;@");
        Edges.dueFault(1, 0, "@;fog 101;");
    }
}
