/** What the tests share: counting what is not as due, and feeding a text. */
final class Due {
    private static int wrong = 0;
    private static int asked = 0;

    private Due() { }

    static void is(String what, long got, long want) {
        asked++;
        if (got != want) {
            wrong++;
            if (wrong <= 50) {
                System.out.println(what + " answered " + got + ", due is " + want);
            }
        }
    }

    static int wrongs() {
        return wrong;
    }

    /** Feeds a text and reads it. */
    static int read(RaceLocks x, byte[] text) {
        x.end(0);
        feed(x, text);
        return x.read();
    }

    static int read(RaceLocks x, String text) {
        return read(x, bytes(text));
    }

    static RaceLocks with(String text) {
        RaceLocks x = new RaceLocks();
        int answer = read(x, text);
        if (answer < 0) {
            is("read of " + text + " (fault " + x.fault() + ")", answer, 0);
        }
        return x;
    }

    static void feed(RaceLocks x, byte[] text) {
        for (int i = 0; i < text.length; i += 20) {
            x.feed(four(text, i), four(text, i + 4), four(text, i + 8), four(text, i + 12), four(text, i + 16));
        }
        x.end(text.length);
    }

    static byte[] bytes(String text) {
        byte[] row = new byte[text.length()];
        for (int i = 0; i < row.length; i++) {
            row[i] = (byte) text.charAt(i);
        }
        return row;
    }

    private static int four(byte[] text, int from) {
        int number = 0;
        for (int i = from; i < from + 4; i++) {
            number = number << 8 | (i < text.length ? text[i] & 255 : 0);
        }
        return number;
    }

    /** Says how it went and ends the test, with exit code 1 if something was wrong. */
    static void close(String name) {
        System.out.println(name + ": " + asked + " answers, " + wrong + " not as due");
        if (wrong != 0) {
            System.exit(1);
        }
    }
}
