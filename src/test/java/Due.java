/** What the tests share: counting what is not as due, and feeding a text. */
final class Due {
    private static int wrong = 0;
    private static int asked = 0;

    /** What may stand behind a token at fault: more faults of all kinds, and none. */
    private static final String[] TAILS = {"", " ", " ?", " 8", " ;", " ;;", " }", " }}", " {", " {{", " =", " = 1;", " = 1 1;", " 1", " 1 1;",
        " zz", " zz zz", " zz;}", " zz{}}", " if", " lock", " lock zz{", " span", " else", " all zz;", " <", " < zz {", "+", " field"};

    private Due() { }

    static void is(String what, long got, long want) {
        asked++;
        if (got != want) {
            wrong++;
            if (wrong <= 50) {
                System.out.println(what + " answered " + got + ", due is " + want);
            }
        }
    }

    static void is(String what, boolean so) {
        is(what, so ? 1 : 0, 1);
    }

    /** A text with a fault of this kind, whose place is marked by @ (which is taken out). */
    static void fault(int kind, String marked) {
        int place = marked.indexOf('@');
        String text = marked.substring(0, place) + marked.substring(place + 1);
        RaceLocks x = new RaceLocks();
        is("read of " + marked, read(x, text), -1000 - place);
        is("fault of " + marked, x.fault(), kind);
        is("count after the fault of " + marked, x.count(0), RaceLocks.STATE);
        if (kind < 5 && place < text.length()) {
            faultBeforeOthers(x, kind, place, text.substring(0, behindToken(text, place)));
        }
    }

    /** "The first from the left": whatever comes behind the token at fault, it stays the one. */
    private static void faultBeforeOthers(RaceLocks x, int kind, int place, String text) {
        for (String tail : TAILS) {
            if (text.length() + tail.length() <= 1500) {
                is("read of " + text + tail, read(x, text + tail), -1000 - place);
                is("fault of " + text + tail, x.fault(), kind);
            }
        }
    }

    /** Where the token ends that begins here: letters and digits, == and !=, or one byte. */
    private static int behindToken(String text, int from) {
        int to = from;
        while (to < text.length() && "abcdefghijklmnopqrstuvwxyz0123456789".indexOf(text.charAt(to)) >= 0) {
            to++;
        }
        if (to > from) {
            return to;
        }
        return text.startsWith("==", from) || text.startsWith("!=", from) ? from + 2 : from + 1;
    }

    /** A text without a fault, of so many steps. */
    static void sound(int steps, String text) {
        RaceLocks x = new RaceLocks();
        is("read of " + text, read(x, text), steps);
        is("fault of " + text, x.fault(), 0);
        is("count after no fault of " + text, x.count(4), steps);
    }

    static boolean feedThrows(RaceLocks x, int... five) {
        try {
            x.feed(five[0], five[1], five[2], five[3], five[4]);
            return false;
        } catch (IllegalStateException e) {
            return true;
        }
    }

    static boolean endThrows(RaceLocks x, int n) {
        try {
            x.end(n);
            return false;
        } catch (IllegalArgumentException e) {
            return true;
        }
    }

    /** What thread() tells of a thread, what after what; 0 for those that are not written out. */
    static void thread(RaceLocks x, int state, int thread, int... due) {
        for (int what = 0; what < 6; what++) {
            is("thread " + state + " " + thread + " " + what, x.thread(state, thread, what), what < due.length ? due[what] : 0);
        }
    }

    /** The one state in which the threads are so: how the first one is, its next step, the second .. */
    static int where(RaceLocks x, int... due) {
        int states = x.run();
        int found = RaceLocks.NONE;
        for (int state = 0; state < states; state++) {
            boolean so = true;
            for (int t = 0; t < due.length / 2; t++) {
                so &= x.thread(state, t, 0) == due[2 * t] && x.thread(state, t, 1) == due[2 * t + 1];
            }
            if (so) {
                is("only one such state", found, RaceLocks.NONE);
                found = state;
            }
        }
        is("there is such a state", found != RaceLocks.NONE);
        return found;
    }

    static int wrongs() {
        return wrong;
    }

    /** Feeds a text and reads it. */
    static int read(RaceLocks x, byte[] text) {
        x.end(0);
        feed(x, text);
        return x.read();
    }

    static int read(RaceLocks x, String text) {
        return read(x, bytes(text));
    }

    static RaceLocks with(String text) {
        RaceLocks x = new RaceLocks();
        int answer = read(x, text);
        if (answer < 0) {
            is("read of " + text + " (fault " + x.fault() + ")", answer, 0);
        }
        return x;
    }

    static void feed(RaceLocks x, byte[] text) {
        for (int i = 0; i < text.length; i += 20) {
            x.feed(four(text, i), four(text, i + 4), four(text, i + 8), four(text, i + 12), four(text, i + 16));
        }
        x.end(text.length);
    }

    static byte[] bytes(String text) {
        byte[] row = new byte[text.length()];
        for (int i = 0; i < row.length; i++) {
            row[i] = (byte) text.charAt(i);
        }
        return row;
    }

    private static int four(byte[] text, int from) {
        int number = 0;
        for (int i = from; i < from + 4; i++) {
            number = number << 8 | (i < text.length ? text[i] & 255 : 0);
        }
        return number;
    }

    /** Says how it went and ends the test, with exit code 1 if something was wrong. */
    static void close(String name) {
        System.out.println(name + ": " + asked + " answers, " + wrong + " not as due");
        if (wrong != 0) {
            System.exit(1);
        }
    }
}
