import java.util.ArrayList;
import java.util.List;
import java.util.Random;

/** Makes texts by chance, always the same ones for the same seed. */
final class Texts {
    private final Random chance;
    private final StringBuilder out = new StringBuilder();
    private final List<String> fields = new ArrayList<>();
    private final List<String> locks = new ArrayList<>();
    private final List<String> threads = new ArrayList<>();
    private final List<String> locals = new ArrayList<>();
    private final List<String> held = new ArrayList<>();
    private int left;
    private boolean inSpan;

    Texts(long seed) {
        chance = new Random(seed);
    }

    private boolean luck(int percent) {
        return chance.nextInt(100) < percent;
    }

    private String any(List<String> list) {
        return list.get(chance.nextInt(list.size()));
    }

    private void put(String text) {
        out.append(text);
        if (luck(20)) {
            out.append(luck(50) ? " " : "\n");
        }
    }

    private static final String[] NAMES = {"a", "bb", "c3", "dddddd", "e", "f1g", "p", "q", "r7", "s", "t", "u"};

    // How often each sort of statement comes: lock, span, if, while, wait, wake, start or join, check, stop,
    // a field is read, written, a local is set.
    private static final int[][] TASTES = {
        {15, 8, 8, 5, 8, 8, 6, 5, 2, 10, 12, 13},
        {15, 10, 5, 2, 0, 0, 0, 3, 0, 25, 25, 15},
        {60, 3, 3, 1, 0, 0, 1, 0, 1, 10, 15, 6},
        {25, 2, 6, 6, 25, 25, 1, 1, 0, 4, 5, 0},
        {5, 25, 5, 3, 0, 0, 2, 2, 1, 25, 30, 2},
        {5, 2, 20, 15, 1, 1, 30, 2, 6, 8, 8, 2},
    };
    private int[] taste;

    /** A text without a fault, most of the time. */
    String program() {
        taste = TASTES[chance.nextInt(TASTES.length)];
        int fieldCount = luck(5) ? 7 : chance.nextInt(4);
        int lockCount = luck(3) ? 5 : chance.nextInt(5);
        for (int i = 0; i < fieldCount; i++) {
            fields.add("f" + i);
            put(luck(80) ? "field " : "open ");
            put("f" + i);
            if (luck(30)) {
                put("=");
                put("" + chance.nextInt(8));
            }
            put(";");
        }
        for (int i = 0; i < lockCount; i++) {
            locks.add("k" + i);
            put("lock ");
            put("k" + i);
            put(";");
        }
        int threadCount = luck(3) ? 0 : luck(3) ? 5 : 1 + chance.nextInt(4);
        for (int i = 0; i < threadCount; i++) {
            threads.add("t" + i);
        }
        int size = 1 + chance.nextInt(luck(5) ? 30 : threadCount <= 2 ? 14 : threadCount == 3 ? 7 : 5);
        for (String name : threads) {
            thread(name, size);
        }
        return out.toString();
    }

    private void thread(String name, int size) {
        put("thread ");
        put(name);
        put("{");
        locals.clear();
        left = luck(6) ? 0 : size;
        int self = Integer.parseInt(name.substring(1));
        if (luck(20) && self + 1 < threads.size()) {
            put("start " + threads.get(self + 1));
            put(";");
        }
        for (int i = 0; i < 9 && left > 0; i++) {
            body(1);
        }
        put("}");
    }

    private void body(int depth) {
        for (int i = 0; i < 5 && left > 0; i++) {
            left--;
            statement(depth);
            if (luck(20)) {
                return;
            }
        }
    }

    private int sortOfStatement() {
        int sum = 0;
        for (int part : taste) {
            sum += part;
        }
        int pick = chance.nextInt(sum);
        int sort = 0;
        while (pick >= taste[sort]) {
            pick -= taste[sort];
            sort++;
        }
        return sort;
    }

    private void statement(int depth) {
        int sort = sortOfStatement();
        boolean deep = depth >= 8 && !luck(10);
        if (!deep && sort == 0 && !locks.isEmpty()) {
            String lock = any(locks);
            put("lock " + lock);
            held.add(lock);
            block(depth);
            held.remove(held.size() - 1);
        } else if (!deep && sort == 1 && !inSpan) {
            put("span");
            inSpan = true;
            block(depth);
            inSpan = false;
        } else if (!deep && sort == 2) {
            put("if ");
            test();
            block(depth);
            if (luck(50)) {
                put("else");
                block(depth);
            }
        } else if (!deep && sort == 3) {
            put("while ");
            test();
            block(depth);
        } else {
            simple(sort);
        }
    }

    private void block(int depth) {
        put("{");
        if (!luck(7)) {
            body(depth + 1);
        }
        put("}");
    }

    private void simple(int sort) {
        if ((sort == 4 || sort == 5) && !locks.isEmpty()) {
            String lock = held.isEmpty() || luck(4) ? any(locks) : held.get(chance.nextInt(held.size()));
            put(sort == 4 ? "wait " : luck(40) ? "wake all " : "wake ");
            put(lock);
        } else if (sort == 6) {
            put((luck(50) ? "start " : "join ") + (luck(1) ? "zz" : any(threads)));
        } else if (sort == 7) {
            put("check ");
            test();
        } else if (sort == 8) {
            put("stop");
        } else {
            setting(sort);
        }
        put(";");
    }

    private void setting(int sort) {
        if (!fields.isEmpty() && sort == 10) {
            put(any(fields));
            put("=");
            put(luck(50) ? "" + chance.nextInt(8) : local());
            return;
        }
        put(local());
        put("=");
        if (!fields.isEmpty() && sort == 9) {
            put(any(fields));
            return;
        }
        put(luck(40) ? "" + chance.nextInt(8) : local());
        if (luck(60)) {
            put(luck(60) ? "+" : "-");
            put(luck(60) ? "" + chance.nextInt(3) : local());
        }
    }

    private String local() {
        if (locals.isEmpty() || locals.size() < (luck(3) ? 4 : 3) && luck(30)) {
            locals.add(NAMES[chance.nextInt(6) + 6 * chance.nextInt(2)] + (luck(90) ? "" : "x"));
        }
        return any(locals);
    }

    private void test() {
        put(locals.isEmpty() || luck(20) ? "" + chance.nextInt(3) : any(locals));
        String[] signs = {"==", "!=", "<", ">"};
        put(signs[chance.nextInt(4)]);
        put(locals.isEmpty() || luck(80) ? "" + chance.nextInt(3) : any(locals));
    }

    private static final String[] PIECES = {"field", "open", "lock", "thread", "if", "else", "while", "wait",
        "wake", "all", "start", "join", "check", "stop", "span", "{", "}", ";", "=", "==", "!=", "<", ">", "+",
        "-", "0", "7", "8", "12", "3a", "f0", "f1", "k0", "k1", "t0", "t1", "t3", "p", "zz", "toolong", "sixsix",
        "!", "A", "field fx;", "span{}", "{}", "lock k0{}", "start t0;", "p=1;", "check 1<2;", "lock kx{", " "};

    /** The text with one or two places changed. */
    String spoilt(String text) {
        StringBuilder changed = new StringBuilder(text);
        int times = 1 + chance.nextInt(2);
        for (int i = 0; i < times; i++) {
            int at = chance.nextInt(changed.length() + 1);
            int to = Math.min(changed.length(), at + chance.nextInt(4));
            int pick = chance.nextInt(5);
            if (pick == 0) {
                changed.delete(at, to);
            } else if (pick == 1) {
                changed.insert(at, (char) (luck(80) ? 32 + chance.nextInt(95) : chance.nextInt(256)));
            } else if (pick == 2) {
                changed.insert(at, " " + PIECES[chance.nextInt(PIECES.length)] + " ");
            } else if (pick == 3) {
                replaceToken(changed);
            } else {
                changed.setLength(at);
            }
        }
        return changed.toString();
    }

    private void replaceToken(StringBuilder text) {
        if (text.length() == 0) {
            return;
        }
        int from = chance.nextInt(text.length());
        while (from > 0 && Character.isLetterOrDigit(text.charAt(from - 1))) {
            from--;
        }
        int to = from + 1;
        while (to < text.length() && Character.isLetterOrDigit(text.charAt(to))) {
            to++;
        }
        text.replace(from, to, PIECES[chance.nextInt(PIECES.length)]);
    }
}
