import java.nio.charset.StandardCharsets;

/** What the project's tests share: telling a text to a rail, and counting wrong answers. */
final class Due {
    private int wrong;
    private int asked;

    void is(String call, long want, long got) {
        asked++;
        if (got != want) {
            wrong++;
            System.out.println(call + " answered " + got + ", due is " + want);
        }
    }

    /** Ends the test, with exit code 1 if an answer was not the one that is due. */
    void close() {
        System.out.println(asked + " answers, " + wrong + " not as due");
        if (wrong != 0 || asked == 0) {
            System.exit(1);
        }
    }

    /** Feeds a text of any bytes, and cuts off what the last feed had too much. */
    static void feed(LockRail x, String text) {
        byte[] bytes = text.getBytes(StandardCharsets.ISO_8859_1);
        int before = x.count(7);
        int[] five = new int[5];
        for (int at = 0; at < bytes.length; at += 20) {
            for (int i = 0; i < 5; i++) {
                five[i] = 0;
                for (int j = 0; j < 4; j++) {
                    int k = at + 4 * i + j;
                    five[i] = five[i] << 8 | (k < bytes.length ? bytes[k] & 255 : 0);
                }
            }
            x.feed(five[0], five[1], five[2], five[3], five[4]);
        }
        x.end(before + bytes.length);
    }

    /** A new object with a rail. */
    static LockRail rail(String text) {
        LockRail x = new LockRail();
        feed(x, text);
        int lines = x.rail();
        if (lines < 0) {
            throw new IllegalStateException("fault " + x.fault(0) + " at " + x.fault(1) + ": " + text);
        }
        return x;
    }
}
