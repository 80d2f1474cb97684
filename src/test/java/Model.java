import java.util.ArrayDeque;
import java.util.ArrayList;
import java.util.Arrays;
import java.util.HashMap;
import java.util.LinkedHashMap;
import java.util.LinkedHashSet;
import java.util.List;
import java.util.Map;
import java.util.Set;

/**
 * The document once more, written as plainly as can be and in another way than the class: tokens all
 * at once, a tree of statements, states that keep each lock's owner and how often it has it. ModelTest
 * compares the class with it.
 */
final class Model {
    static final class Fault extends RuntimeException {
        private static final long serialVersionUID = 1L;
        final int kind;
        final int place;

        Fault(int kind, int place) {
            this.kind = kind;
            this.place = place;
        }
    }

    private static final class Token {
        String text;
        int place;
        boolean bad;

        boolean is(String other) {
            return !bad && text.equals(other);
        }

        boolean isName() {
            return !bad && text.matches("[a-z][a-z0-9]*") && !RESERVED.contains(text);
        }

        boolean isNumber() {
            return !bad && text.matches("[0-7]");
        }
    }

    static final Set<String> RESERVED = Set.of("field", "open", "lock", "thread", "if", "else", "while",
            "wait", "wake", "all", "start", "join", "check", "stop", "span");

    /** A statement; what is a block has its statements in body (and those of 'else' in other). */
    private static final class Node {
        String sort;
        int step = -1;
        int leaving = -1;
        List<Node> body = new ArrayList<>();
        List<Node> other = new ArrayList<>();
    }

    static final class Step {
        int kind;
        int subject = -1;
        int next = -1;
        int other = -1;
        Set<Integer> held = new LinkedHashSet<>();
        int span = -1;
        int target = -1;
        String left = "0";
        String sign = "";
        String right = "0";
        String meant;
        int meantPlace;
    }

    final List<String> fields = new ArrayList<>();
    final List<Integer> values = new ArrayList<>();
    final List<Boolean> open = new ArrayList<>();
    final List<String> locks = new ArrayList<>();
    final List<String> threads = new ArrayList<>();
    final List<List<Step>> steps = new ArrayList<>();
    int spans = 0;

    private final List<Token> tokens = new ArrayList<>();
    private int at = 0;
    private List<String> locals = new ArrayList<>();
    private List<Step> own = new ArrayList<>();
    private final ArrayDeque<Integer> holding = new ArrayDeque<>();
    private int spanNow = -1;

    Model(byte[] text) {
        split(text);
        text();
        for (List<Step> list : steps) {
            for (Step step : list) {
                if (step.meant != null) {
                    step.subject = threads.indexOf(step.meant);
                    if (step.subject < 0) {
                        throw new Fault(5, step.meantPlace);
                    }
                }
            }
        }
    }

    private static boolean wordly(int b) {
        return b >= 'a' && b <= 'z' || b >= '0' && b <= '9';
    }

    private void split(byte[] text) {
        int i = 0;
        while (i < text.length) {
            int b = text[i] & 255;
            if (b == 32 || b == 10) {
                i++;
                continue;
            }
            Token token = new Token();
            token.place = i;
            int to = i + 1;
            if (wordly(b)) {
                while (to < text.length && wordly(text[to] & 255)) {
                    to++;
                }
            } else if ((b == '=' || b == '!') && to < text.length && text[to] == '=') {
                to++;
            }
            StringBuilder letters = new StringBuilder();
            for (int k = i; k < to; k++) {
                letters.append((char) (text[k] & 255));
            }
            token.text = letters.toString();
            token.bad = !token.text.matches("[a-z][a-z0-9]{0,5}|[0-7]|[=;{}<>+-]|==|!=");
            tokens.add(token);
            i = to;
        }
        Token end = new Token();
        end.text = "";
        end.place = text.length;
        tokens.add(end);
    }

    private Token now() {
        return tokens.get(at);
    }

    private Fault fault(int kind) {
        return new Fault(now().bad ? 1 : kind, now().place);
    }

    private void need(String text) {
        if (!now().is(text)) {
            throw fault(2);
        }
        at++;
    }

    private String told(List<String> list, int most) {
        if (!now().isName()) {
            throw fault(2);
        }
        String name = now().text;
        if (fields.contains(name) || locks.contains(name) || threads.contains(name)) {
            throw fault(3);
        }
        if (list.size() == most) {
            throw fault(4);
        }
        list.add(name);
        at++;
        return name;
    }

    private void text() {
        while (now().is("field") || now().is("open") || now().is("lock")) {
            String sort = now().text;
            at++;
            if (sort.equals("lock")) {
                told(locks, 4);
            } else {
                told(fields, 6);
                open.add(sort.equals("open"));
                int value = 0;
                if (now().is("=")) {
                    at++;
                    if (!now().isNumber()) {
                        throw fault(2);
                    }
                    value = Integer.parseInt(now().text);
                    at++;
                }
                values.add(value);
            }
            need(";");
        }
        while (now().is("thread")) {
            at++;
            told(threads, 4);
            locals = new ArrayList<>();
            own = new ArrayList<>();
            steps.add(own);
            List<Node> body = block(1);
            at++;
            link(body, own.size(), own);
        }
        if (!now().is("")) {
            throw fault(2);
        }
    }

    private List<Node> block(int depth) {
        if (!now().is("{")) {
            throw fault(2);
        }
        if (depth > 8) {
            throw fault(4);
        }
        at++;
        List<Node> list = new ArrayList<>();
        while (!now().is("}")) {
            list.add(statement(depth));
        }
        return list; // its } is still to be taken, as leaving a lock may be one step too many there
    }

    private Step newStep(int kind) {
        if (own.size() == 24) {
            throw fault(4);
        }
        Step step = new Step();
        step.kind = kind;
        step.held.addAll(holding);
        step.span = spanNow;
        own.add(step);
        return step;
    }

    private Node statement(int depth) {
        Node node = new Node();
        node.sort = now().text;
        if (now().bad) {
            throw fault(1);
        }
        switch (node.sort) {
            case "lock" -> {
                node.step = own.size();
                Step taking = newStep(3);
                at++;
                taking.subject = lockName();
                holding.push(taking.subject);
                node.body = block(depth + 1);
                node.leaving = own.size();
                newStep(4).subject = taking.subject;
                holding.pop();
                at++;
            }
            case "span" -> {
                if (spanNow >= 0) {
                    throw fault(2);
                }
                if (spans == 6) {
                    throw fault(4);
                }
                spanNow = spans++;
                at++;
                node.body = block(depth + 1);
                spanNow = -1;
                at++;
            }
            case "if", "while" -> {
                node.step = own.size();
                Step step = newStep(node.sort.equals("if") ? 5 : 6);
                at++;
                test(step);
                node.body = block(depth + 1);
                at++;
                if (node.sort.equals("if") && now().is("else")) {
                    at++;
                    node.other = block(depth + 1);
                    at++;
                }
            }
            default -> {
                node.step = own.size();
                simple(node.sort);
                need(";");
            }
        }
        return node;
    }

    private void simple(String sort) {
        switch (sort) {
            case "wait" -> {
                Step step = newStep(7);
                at++;
                step.subject = lockName();
            }
            case "wake" -> {
                Step step = newStep(8);
                at++;
                if (now().is("all")) {
                    step.kind = 9;
                    at++;
                }
                step.subject = lockName();
            }
            case "start", "join" -> {
                Step step = newStep(sort.equals("start") ? 10 : 11);
                at++;
                if (!now().isName() || fields.contains(now().text) || locks.contains(now().text)) {
                    throw fault(2);
                }
                step.meant = now().text;
                step.meantPlace = now().place;
                at++;
            }
            case "check" -> {
                Step step = newStep(12);
                at++;
                test(step);
            }
            case "stop" -> {
                newStep(13);
                at++;
            }
            default -> setting();
        }
    }

    private int lockName() {
        String name = now().text;
        if (!now().isName() || fields.contains(name) || threads.contains(name) || locals.contains(name)) {
            throw fault(2);
        }
        if (!locks.contains(name)) {
            throw fault(3);
        }
        at++;
        return locks.indexOf(name);
    }

    private void test(Step step) {
        step.left = testValue();
        step.sign = now().text;
        if (!List.of("==", "!=", "<", ">").contains(now().text)) {
            throw fault(2);
        }
        at++;
        step.right = testValue();
    }

    private String testValue() {
        String text = now().text;
        if (!now().isNumber() && !now().isName() || fields.contains(text) || locks.contains(text)
                || threads.contains(text)) {
            throw fault(2);
        }
        if (now().isName() && !locals.contains(text)) {
            throw fault(3);
        }
        at++;
        return locals.contains(text) ? "$" + locals.indexOf(text) : text;
    }

    private String setValue() {
        String text = now().text;
        if (now().isNumber()) {
            at++;
            return text;
        }
        String local = "$" + local();
        at++;
        return local;
    }

    private int local() {
        String name = now().text;
        if (!now().isName() || fields.contains(name) || locks.contains(name) || threads.contains(name)) {
            throw fault(2);
        }
        if (!locals.contains(name)) {
            if (locals.size() == 3) {
                throw fault(4);
            }
            locals.add(name);
        }
        return locals.indexOf(name);
    }

    private void setting() {
        if (now().isName() && fields.contains(now().text)) {
            Step step = newStep(1);
            step.subject = fields.indexOf(now().text);
            at++;
            need("=");
            step.left = setValue();
            return;
        }
        int target = local();
        Step step = newStep(2);
        step.target = target;
        at++;
        need("=");
        if (now().isName() && fields.contains(now().text)) {
            step.kind = 0;
            step.subject = fields.indexOf(now().text);
            at++;
            return;
        }
        step.left = setValue();
        if (now().is("+") || now().is("-")) {
            step.sign = now().text;
            at++;
            step.right = setValue();
        }
    }

    private static int firstOf(List<Node> list, int from, int follow) {
        for (int i = from; i < list.size(); i++) {
            Node node = list.get(i);
            if (!node.sort.equals("span")) {
                return node.step;
            }
            int inside = firstOf(node.body, 0, -1);
            if (inside >= 0) {
                return inside;
            }
        }
        return follow;
    }

    private static void link(List<Node> list, int follow, List<Step> own) {
        for (int i = 0; i < list.size(); i++) {
            Node node = list.get(i);
            int behind = firstOf(list, i + 1, follow);
            switch (node.sort) {
                case "span" -> link(node.body, behind, own);
                case "lock" -> {
                    own.get(node.step).next = firstOf(node.body, 0, node.leaving);
                    link(node.body, node.leaving, own);
                    own.get(node.leaving).next = behind;
                }
                case "if" -> {
                    own.get(node.step).next = firstOf(node.body, 0, behind);
                    own.get(node.step).other = firstOf(node.other, 0, behind);
                    link(node.body, behind, own);
                    link(node.other, behind, own);
                }
                case "while" -> {
                    own.get(node.step).next = firstOf(node.body, 0, node.step);
                    own.get(node.step).other = behind;
                    link(node.body, node.step, own);
                }
                case "stop" -> own.get(node.step).next = own.size();
                default -> own.get(node.step).next = behind;
            }
        }
    }

    int total() {
        int sum = 0;
        for (List<Step> list : steps) {
            sum += list.size();
        }
        return sum;
    }

    // ---- how it runs

    static final class Now {
        int[] value;
        int[] owner;
        int[] times;
        int[] step;
        int[] how;
        int[] kept;
        int[][] local;
        boolean[] inside;
        Now from;
        int mover;
        int number;
        boolean last = true;

        Now copy() {
            Now n = new Now();
            n.value = value.clone();
            n.owner = owner.clone();
            n.times = times.clone();
            n.step = step.clone();
            n.how = how.clone();
            n.kept = kept.clone();
            n.inside = inside.clone();
            n.local = new int[local.length][];
            for (int i = 0; i < local.length; i++) {
                n.local[i] = local[i].clone();
            }
            return n;
        }

        String key() {
            return Arrays.toString(value) + Arrays.toString(owner) + Arrays.toString(times)
                    + Arrays.toString(step) + Arrays.toString(how) + Arrays.toString(kept)
                    + Arrays.deepToString(local) + Arrays.toString(inside);
        }

        String outcome(boolean end) {
            StringBuilder text = new StringBuilder(end ? "end" : "stuck");
            text.append(Arrays.toString(value));
            for (int h : how) {
                text.append(h == 5 ? 'F' : '.');
            }
            return text.toString();
        }
    }

    private Now first() {
        Now n = new Now();
        n.value = values.stream().mapToInt(Integer::intValue).toArray();
        n.owner = new int[locks.size()];
        Arrays.fill(n.owner, -1);
        n.times = new int[locks.size()];
        int size = threads.size();
        n.step = new int[size];
        n.how = new int[size];
        n.kept = new int[size];
        n.inside = new boolean[size];
        n.local = new int[size][3];
        for (int t = 0; t < size; t++) {
            boolean started = false;
            for (List<Step> list : steps) {
                for (Step s : list) {
                    started |= s.kind == 10 && s.subject == t;
                }
            }
            n.how[t] = started ? 0 : steps.get(t).isEmpty() ? 4 : 1;
        }
        return n;
    }

    boolean can(Now n, int t) {
        if (n.how[t] == 3) {
            return n.owner[steps.get(t).get(n.step[t]).subject] == -1;
        }
        if (n.how[t] != 1) {
            return false;
        }
        Step s = steps.get(t).get(n.step[t]);
        if (s.kind == 3) {
            return n.owner[s.subject] == -1 || n.owner[s.subject] == t;
        }
        return s.kind != 11 || n.how[s.subject] >= 4;
    }

    private int value(Now n, int t, String text) {
        return text.startsWith("$") ? n.local[t][text.charAt(1) - '0'] : Integer.parseInt(text);
    }

    private boolean holds(Now n, int t, Step s) {
        int a = value(n, t, s.left);
        int b = value(n, t, s.right);
        return switch (s.sign) {
            case "==" -> a == b;
            case "!=" -> a != b;
            case "<" -> a < b;
            default -> a > b;
        };
    }

    private void drop(Now n, int t) {
        n.inside[t] = false;
        for (int l = 0; l < n.owner.length; l++) {
            if (n.owner[l] == t) {
                n.owner[l] = -1;
                n.times[l] = 0;
            }
        }
    }

    private void go(Now n, int t, int next) {
        n.step[t] = next;
        n.how[t] = 1;
        if (next == steps.get(t).size()) {
            n.how[t] = 4;
            drop(n, t);
        }
    }

    private void fail(Now n, int t) {
        n.how[t] = 5;
        drop(n, t);
    }

    Now after(Now old, int t, int span) {
        Now n = old.copy();
        Step s = steps.get(t).get(n.step[t]);
        n.inside[t] = span >= 0 && s.span == span;
        if (n.how[t] == 3) {
            n.owner[s.subject] = t;
            n.times[s.subject] = n.kept[t];
            n.kept[t] = 0;
            go(n, t, s.next);
            return n;
        }
        boolean mine = s.kind >= 7 && s.kind <= 9 && n.owner[s.subject] == t;
        switch (s.kind) {
            case 0 -> n.local[t][s.target] = n.value[s.subject];
            case 1 -> n.value[s.subject] = value(n, t, s.left);
            case 2 -> {
                int sum = value(n, t, s.left);
                int right = value(n, t, s.right);
                sum = s.sign.equals("+") ? sum + right : s.sign.equals("-") ? sum - right : sum;
                n.local[t][s.target] = Math.floorMod(sum, 8);
            }
            case 3 -> {
                n.owner[s.subject] = t;
                n.times[s.subject]++;
            }
            case 4 -> {
                if (--n.times[s.subject] == 0) {
                    n.owner[s.subject] = -1;
                }
            }
            case 7 -> {
                if (!mine) {
                    fail(n, t);
                } else {
                    n.kept[t] = n.times[s.subject];
                    n.times[s.subject] = 0;
                    n.owner[s.subject] = -1;
                    n.how[t] = 2;
                }
                return n;
            }
            case 8, 9 -> {
                if (!mine) {
                    fail(n, t);
                    return n;
                }
                for (int u = 0; u < threads.size(); u++) {
                    if (n.how[u] == 2 && steps.get(u).get(n.step[u]).subject == s.subject) {
                        n.how[u] = 3;
                        if (s.kind == 8) {
                            break;
                        }
                    }
                }
            }
            case 10 -> {
                if (n.how[s.subject] != 0) {
                    fail(n, t);
                    return n;
                }
                go(n, s.subject, 0);
            }
            case 12 -> {
                if (!holds(n, t, s)) {
                    fail(n, t);
                    return n;
                }
            }
            default -> { }
        }
        boolean turns = (s.kind == 5 || s.kind == 6) && !holds(n, t, s);
        go(n, t, turns ? s.other : s.next);
        return n;
    }

    /** All states in order; null if they are too many. */
    List<Now> all(int span) {
        Map<String, Now> seen = new HashMap<>();
        List<Now> list = new ArrayList<>();
        Now zero = first();
        seen.put(zero.key(), zero);
        list.add(zero);
        for (int i = 0; i < list.size(); i++) {
            Now n = list.get(i);
            List<Integer> may = new ArrayList<>();
            for (int t = 0; t < threads.size(); t++) {
                if (can(n, t)) {
                    may.add(t);
                }
            }
            n.last = may.isEmpty();
            for (int t : may) {
                if (n.inside[t] && n.how[t] == 1 && steps.get(t).get(n.step[t]).span == span) {
                    may = List.of(t);
                    break;
                }
            }
            for (int t : may) {
                Now next = after(n, t, span);
                if (seen.putIfAbsent(next.key(), next) == null) {
                    next.from = n;
                    next.mover = t;
                    next.number = list.size();
                    list.add(next);
                    if (list.size() > 4000) {
                        return null;
                    }
                }
            }
        }
        return list;
    }

    static boolean isEnd(Now n) {
        for (int how : n.how) {
            if (how >= 1 && how <= 3) {
                return false;
            }
        }
        return true;
    }

    static Map<String, Integer> outcomes(List<Now> all) {
        Map<String, Integer> map = new LinkedHashMap<>();
        for (Now n : all) {
            if (n.last) {
                map.putIfAbsent(n.outcome(isEnd(n)), n.number);
            }
        }
        return map;
    }

    static List<Integer> schedule(Now n) {
        List<Integer> list = new ArrayList<>();
        for (Now at = n; at.from != null; at = at.from) {
            list.add(0, at.mover);
        }
        return list;
    }

    boolean clash(int a, int s, int b, int o) {
        Step x = steps.get(a).get(s);
        Step y = steps.get(b).get(o);
        return x.kind <= 1 && y.kind <= 1 && x.kind + y.kind >= 1 && x.subject == y.subject
                && !open.get(x.subject);
    }

    /** All pairs a, s, b, o of clashing steps, a below b, in order. */
    List<int[]> clashes() {
        List<int[]> list = new ArrayList<>();
        for (int a = 0; a < threads.size(); a++) {
            for (int s = 0; s < steps.get(a).size(); s++) {
                for (int b = a + 1; b < threads.size(); b++) {
                    for (int o = 0; o < steps.get(b).size(); o++) {
                        if (clash(a, s, b, o)) {
                            list.add(new int[] {a, s, b, o});
                        }
                    }
                }
            }
        }
        return list;
    }

    /** The races: a, s, b, o and the least state. */
    List<int[]> races(List<Now> all) {
        List<int[]> list = new ArrayList<>();
        for (int[] c : clashes()) {
            for (Now n : all) {
                if (n.how[c[0]] == 1 && n.how[c[2]] == 1 && n.step[c[0]] == c[1] && n.step[c[2]] == c[3]) {
                    list.add(new int[] {c[0], c[1], c[2], c[3], n.number});
                    break;
                }
            }
        }
        return list;
    }

    /** The kind of a stuck state, as stuck() tells it. */
    int stuckKind(Now n) {
        for (int t = 0; t < threads.size(); t++) {
            Set<Integer> seen = new LinkedHashSet<>();
            int at = t;
            while (at >= 0 && n.how[at] == 1 && steps.get(at).get(n.step[at]).kind == 3 && seen.add(at)) {
                at = n.owner[steps.get(at).get(n.step[at]).subject];
            }
            if (at >= 0 && seen.contains(at)) {
                return 1;
            }
        }
        for (int how : n.how) {
            if (how == 1 || how == 3) {
                return 3;
            }
        }
        return 2;
    }

    // ---- without trying

    private boolean leads(int t, int from, int to, int joined) {
        return leads(t, from, to, joined, new LinkedHashSet<>());
    }

    private boolean leads(int t, int from, int to, int joined, Set<Integer> seen) {
        if (from < 0 || from >= steps.get(t).size() || !seen.add(from)) {
            return false;
        }
        if (from == to) {
            return true;
        }
        Step s = steps.get(t).get(from);
        if (s.kind == 11 && s.subject == joined) {
            return false;
        }
        return leads(t, s.next, to, joined, seen) || leads(t, s.other, to, joined, seen);
    }

    private boolean comesAfter(int t, int step, int earlier) {
        Step s = steps.get(t).get(earlier);
        return leads(t, s.next, step, -1) || leads(t, s.other, step, -1);
    }

    private boolean apart(int a, int b, int stepOfB) {
        boolean byB = false;
        boolean byOther = false;
        boolean comes = false;
        for (int t = 0; t < threads.size(); t++) {
            for (int s = 0; s < steps.get(t).size(); s++) {
                Step step = steps.get(t).get(s);
                if (step.kind == 10 && step.subject == a) {
                    byB |= t == b;
                    byOther |= t != b;
                    comes |= t == b && comesAfter(b, stepOfB, s);
                }
            }
        }
        return byB && !byOther && !comes || !leads(b, 0, stepOfB, a);
    }

    boolean meet(int a, int s, int b, int o) {
        return !apart(a, b, o) && !apart(b, a, s);
    }

    List<int[]> doubts() {
        List<int[]> list = new ArrayList<>();
        for (int[] c : clashes()) {
            Set<Integer> both = new LinkedHashSet<>(steps.get(c[0]).get(c[1]).held);
            both.retainAll(steps.get(c[2]).get(c[3]).held);
            if (both.isEmpty() && meet(c[0], c[1], c[2], c[3])) {
                list.add(c);
            }
        }
        return list;
    }

    static int bits(Set<Integer> set) {
        int sum = 0;
        for (int i : set) {
            sum |= 1 << i;
        }
        return sum;
    }

    int guards(int field) {
        int sum = (1 << locks.size()) - 1;
        for (List<Step> list : steps) {
            for (Step s : list) {
                sum &= s.kind <= 1 && s.subject == field ? bits(s.held) : -1;
            }
        }
        return sum;
    }

    int rings() {
        Set<String> found = new LinkedHashSet<>();
        grow(new ArrayList<>(), found);
        return found.size();
    }

    private void grow(List<int[]> row, Set<String> found) {
        if (row.size() >= 2 && isRing(row)) {
            List<String> turned = new ArrayList<>();
            for (int from = 0; from < row.size(); from++) {
                StringBuilder text = new StringBuilder();
                for (int i = 0; i < row.size(); i++) {
                    text.append(Arrays.toString(row.get((from + i) % row.size())));
                }
                turned.add(text.toString());
            }
            turned.sort(null);
            found.add(turned.get(0));
        }
        if (row.size() == 4) {
            return;
        }
        for (int t = 0; t < threads.size(); t++) {
            for (int s = 0; s < steps.get(t).size(); s++) {
                if (steps.get(t).get(s).kind == 3 && !has(row, t)) {
                    row.add(new int[] {t, s});
                    grow(row, found);
                    row.remove(row.size() - 1);
                }
            }
        }
    }

    private static boolean has(List<int[]> row, int t) {
        for (int[] x : row) {
            if (x[0] == t) {
                return true;
            }
        }
        return false;
    }

    private Step of(int[] taking) {
        return steps.get(taking[0]).get(taking[1]);
    }

    private boolean isRing(List<int[]> row) {
        for (int i = 0; i < row.size(); i++) {
            if (!of(row.get((i + 1) % row.size())).held.contains(of(row.get(i)).subject)) {
                return false;
            }
            for (int j = i + 1; j < row.size(); j++) {
                Set<Integer> both = new LinkedHashSet<>(of(row.get(i)).held);
                both.retainAll(of(row.get(j)).held);
                int[] x = row.get(i);
                int[] y = row.get(j);
                if (!both.isEmpty() || of(x).subject == of(y).subject || !meet(x[0], x[1], y[0], y[1])) {
                    return false;
                }
            }
        }
        return true;
    }
}
