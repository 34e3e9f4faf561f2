import java.lang.management.ManagementFactory;

/** All calls of a run live in one room: no call makes an object, and a new object is small. */
public final class RoomTest {
    private static final com.sun.management.ThreadMXBean THREADS = (com.sun.management.ThreadMXBean) ManagementFactory.getThreadMXBean();
    private static final String TEXT = "thing a 0 5 256 1;thing b 4 3 16 0;thing c 9 8 7 2 thief;thing d 12 1 3 4;thing e 20 2 9 3;lamp 1 9;lamp 5 9;"
            + "lamp 9 9;lamp 2 29;lamp 8 8;meet a b;meet b c;meet c d;meet d e;fog 20;seed 5;law late size*comes-own;law near far*2-which;law price size*day;";

    private static long made() {
        return THREADS.getThreadAllocatedBytes(Thread.currentThread().getId());
    }

    private static long use(ShadowPool x, int[][] fives, int length) {
        long sum = 0;
        for (int[] five : fives) {
            sum += x.feed(five[0], five[1], five[2], five[3], five[4]);
        }
        sum += x.text(length) + x.fault(0) + x.named(1 << 25) + x.thing(0, 1) + x.lamp(0, 2) + x.wall(0);
        sum += x.law(0, 1, 1) + x.law(2, 1, 1) + x.best(0) + x.gives(1, 3, 2) + x.hangs(1) + x.look(1) + x.alike(1) + x.sorts() + x.whose(7);
        sum += x.see(20, 1, 7) + x.strike(0) + x.see(20, 2, 1) + x.rules() + x.rests(0, 1) + x.rest(0, 1, 1) + x.price(1) + x.season(1, 20, 1);
        sum += x.whole(1, 4, 0) + x.chance(7, 20, 2) + x.tried(2, 0, 20) + x.keep();
        sum += (x.hang(0, 7) ? 1 : 0) + (x.turn(0, 3) ? 1 : 0) + (x.trade(0, 4) ? 1 : 0) + (x.meet(0, 4, true) ? 1 : 0) + (x.meet(0, 1, false) ? 1 : 0);
        sum += x.swaps() + x.swap(1) + x.undo() + x.days(50) + x.own() + x.back() + x.count(4) + (x.known(1) ? 1 : 0);
        return sum;
    }

    public static void main(String[] args) {
        byte[] bytes = TEXT.getBytes(java.nio.charset.StandardCharsets.ISO_8859_1);
        int[][] fives = Texts.fives(bytes);
        use(new ShadowPool(), fives, bytes.length);
        long before = made();
        ShadowPool x = new ShadowPool();
        long between = made();
        long sum = 0;
        for (int i = 0; i < 10; i++) {
            sum += use(x, fives, bytes.length);
        }
        long after = made();
        System.out.println("a new object: " + (between - before) + " bytes, its calls: " + (after - between) + " bytes (" + sum + ")");
        // some slack, as the measuring itself makes a little
        if (between - before > 40000 || after - between > 4000) {
            System.exit(1);
        }
    }
}
