import java.nio.charset.StandardCharsets;

/** Helps tests to put whole texts on a tape. */
final class Texts {
    private Texts() {
    }

    /** Feeds a text (blanks behind it up to twenties) and takes it: what text() answers. */
    static int load(ShadowPool pool, String text) {
        byte[] bytes = text.getBytes(StandardCharsets.ISO_8859_1);
        for (int[] five : fives(bytes)) {
            pool.feed(five[0], five[1], five[2], five[3], five[4]);
        }
        return pool.text(bytes.length);
    }

    /** The arguments of the feeds that bring these bytes. */
    static int[][] fives(byte[] bytes) {
        int[][] fives = new int[(bytes.length + 19) / 20][5];
        for (int i = 0; i < fives.length * 20; i++) {
            int b = i < bytes.length ? bytes[i] & 255 : 32;
            fives[i / 20][i % 20 / 4] = fives[i / 20][i % 20 / 4] << 8 | b;
        }
        return fives;
    }
}
