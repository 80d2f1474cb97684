/**
 * The document's sentences about what is judged without trying that name an edge: each one stands above the
 * tests that would fail if it were broken.
 */
public final class JudgeEdgesTest {
    private static final int OUTSIDE = RaceLocks.OUTSIDE;
    private static final int[] FAR = {Integer.MIN_VALUE, -2, -1, Integer.MAX_VALUE};
    private static final String LOCKS4 = "lock k;lock l;lock m;lock n;";

    public static void main(String[] args) {
        held();
        startedByOneAlone();
        startedByOthers();
        comesAfter();
        joined();
        notComeTo();
        meetOutside();
        doubts();
        doubtsFull();
        guards();
        ringsOfTwo();
        ringsOfMore();
        ringsFull();
        ringsOfTakings();
        askedFirst();
        Due.close("JudgeEdgesTest");
    }

    private static void is(String what, long got, long want) {
        Due.is(what, got, want);
    }

    private static String times(int n, String text) {
        return text.repeat(n);
    }

    /** Whether each step of thread 0 meets step 0 of thread 1; asked both ways. */
    private static void meets(String text, int... due) {
        RaceLocks x = Due.with(text);
        for (int step = 0; step < due.length; step++) {
            is("meet 0 " + step + " 1 0 of " + text, x.meet(0, step, 1, 0), due[step]);
            is("meet 1 0 0 " + step + " of " + text, x.meet(1, 0, 0, step), due[step]);
        }
        is("behind all of " + text, x.meet(0, due.length, 1, 0), OUTSIDE);
        is("behind all of " + text, x.meet(1, 0, 0, due.length), OUTSIDE);
    }

    /** "HELD at a step are the locks whose 'lock' the step stands in (not its own taking, but its own leaving)." */
    private static void held() {
        RaceLocks x = Due.with("lock k;lock l;thread t{lock k{lock k{r=1;}lock l{if 1<2{r=2;}}r=3;}r=4;}thread u{stop;}");
        int[] due = {0, 1, 1, 1, 1, 3, 3, 3, 1, 1, 0};
        for (int step = 0; step < due.length; step++) {
            is("held at " + step, x.step(0, step, 4), due[step]);
        }
        is("nothing is held by the next thread", x.step(1, 0, 4), 0);
        is("nor where there are no locks", Due.with("thread t{stop;}").step(0, 0, 4), 0);
    }

    /** "unless one of the threads (a) is started by statements of the other one (b) alone, .. and b's step comes after none of these" */
    private static void startedByOneAlone() {
        meets("thread b{start a;}thread a{stop;}", 0);
        meets("thread b{start a;r=1;}thread a{stop;}", 0, 1);
        meets("thread b{r=1;start a;}thread a{stop;}", 0, 0);
        meets("thread b{r=1;start a;r=2;start a;r=3;}thread a{stop;}", 0, 0, 1, 1, 1);
        meets("thread b{if 1<2{start a;}else{start a;}r=1;}thread a{stop;}", 0, 0, 0, 1);
        meets("thread b{if 1<2{start a;}r=1;}thread a{stop;}", 0, 0, 1);
        meets("thread b{if 1<2{r=1;}else{start a;}r=2;}thread a{stop;}", 0, 0, 0, 1);
        meets("thread b{if 1<0{start a;}r=1;}thread a{stop;}", 0, 0, 1);
        meets("thread b{r=1;}thread a{stop;}", 1);
        // the greater number starts the lesser one
        RaceLocks x = Due.with("thread a{stop;}thread b{r=1;start a;r=2;}");
        is("before", x.meet(0, 0, 1, 0), 0);
        is("it", x.meet(0, 0, 1, 1), 0);
        is("behind", x.meet(0, 0, 1, 2), 1);
        // 24 steps, the 'start' the first or the last but one
        x = Due.with("thread b{start a;" + times(23, "r=1;") + "}thread a{" + times(24, "r=1;") + "}");
        is("the first", x.meet(0, 0, 1, 23), 0);
        is("the last", x.meet(0, 23, 1, 23), 1);
        is("behind it", x.meet(0, 24, 1, 23), OUTSIDE);
        is("behind the other one's", x.meet(0, 23, 1, 24), OUTSIDE);
        x = Due.with("thread b{" + times(22, "r=1;") + "start a;r=2;}thread a{r=1;}");
        is("before the last but one", x.meet(0, 21, 1, 0), 0);
        is("the last but one", x.meet(0, 22, 1, 0), 0);
        is("the last", x.meet(0, 23, 1, 0), 1);
    }

    /** "alone, and of nobody else": a third one, or itself. */
    private static void startedByOthers() {
        meets("thread b{r=1;start a;}thread a{stop;}thread c{start a;}", 1, 1);
        meets("thread b{r=1;start a;}thread a{stop;start a;}", 1, 1);
        meets("thread b{r=1;}thread a{stop;}thread c{start a;}", 1);
        meets("thread b{r=1;}thread a{stop;start a;}", 1);
        meets("thread b{r=1;start a;}thread a{stop;}thread c{start b;}", 0, 0);
        RaceLocks x = Due.with("thread b{r=1;start a;}thread a{stop;}thread c{s=1;}");
        is("of a third one nothing is known", x.meet(1, 0, 2, 0), 1);
        is("nor of b and it", x.meet(0, 0, 2, 0), 1);
        // each starts the other one: neither meets before
        x = Due.with("thread b{r=1;start a;r=2;}thread a{r=1;start b;r=2;}");
        int[][] due = {{0, 0, 0}, {0, 0, 0}, {0, 0, 1}};
        for (int step = 0; step < 3; step++) {
            for (int other = 0; other < 3; other++) {
                is("meet 0 " + step + " 1 " + other, x.meet(0, step, 1, other), due[step][other]);
            }
        }
    }

    /** "A step COMES AFTER another one of its thread, if a way by steps leads from behind the other one to it (the tests this way or that)." */
    private static void comesAfter() {
        meets("thread b{while 0<1{r=1;start a;r=2;}r=3;}thread a{stop;}", 1, 1, 1, 1, 1);
        meets("thread b{while 1<0{start a;}}thread a{stop;}", 1, 1);
        meets("thread b{start a;stop;r=1;}thread a{stop;}", 0, 1, 0);
        meets("thread b{if 1<2{start a;stop;}r=1;}thread a{stop;}", 0, 0, 1, 0);
        meets("thread b{while 1<2{start a;stop;}r=1;}thread a{stop;}", 0, 0, 1, 0);
        meets("thread b{if 1<2{start a;}else{r=1;}}thread a{stop;}", 0, 0, 0);
        meets("thread b{while 1<2{if 1<2{r=1;}else{start a;}}}thread a{stop;}", 1, 1, 1, 1);
        // back to the first step by a test that is so, and by one that is not
        meets("thread b{while 1<2{start a;if 1<2{}else{stop;}}}thread a{stop;}", 1, 1, 1, 1);
        meets("thread b{while 1<2{start a;if 1<2{stop;}}}thread a{stop;}", 1, 1, 1, 1);
        meets("thread b{while 1<2{start a;while 1<2{stop;}}r=1;}thread a{stop;}", 1, 1, 1, 1, 1);
    }

    /** "or b's step cannot be come to from b's beginning but through a 'join' of a" */
    private static void joined() {
        meets("thread b{join a;}thread a{stop;}", 1);
        meets("thread b{join a;r=1;}thread a{stop;}", 1, 0);
        meets("thread b{join b;r=1;}thread a{stop;}", 1, 1);
        meets("thread b{join c;r=1;}thread a{stop;}thread c{}", 1, 1);
        meets("thread b{join a;join a;r=1;}thread a{stop;}", 1, 0, 0);
        meets("thread b{if 1<2{join a;}r=1;}thread a{stop;}", 1, 1, 1);
        meets("thread b{if 1<2{join a;r=1;}else{r=2;}r=3;}thread a{stop;}", 1, 1, 0, 1, 1);
        meets("thread b{if 1<2{join a;}else{join a;}r=1;}thread a{stop;}", 1, 1, 1, 0);
        meets("thread b{if 1<2{stop;}else{join a;}r=1;}thread a{stop;}", 1, 1, 1, 0);
        meets("thread b{while 1<2{join a;r=1;}r=2;}thread a{stop;}", 1, 1, 0, 1);
        meets("thread b{while 1<2{r=1;join a;}r=2;}thread a{stop;}", 1, 1, 1, 1);
        meets("thread b{start a;r=1;join a;r=2;start a;r=3;}thread a{stop;}", 0, 1, 1, 0, 0, 0);
        meets("lock k;thread b{lock k{join a;}}thread a{stop;}", 1, 1, 0);
    }

    /** "(or not at all)": steps that cannot be come to meet nobody's. */
    private static void notComeTo() {
        meets("thread b{stop;r=1;}thread a{stop;}", 1, 0);
        meets("thread b{if 1<2{stop;}else{stop;}r=1;}thread a{stop;}", 1, 1, 1, 0);
        meets("thread b{if 1<0{r=1;}while 1<2{}r=2;}thread a{stop;}", 1, 1, 1, 1);
        meets("thread b{stop;start a;r=1;}thread a{stop;}", 0, 0, 0);
        RaceLocks x = Due.with("thread b{r=1;}thread a{stop;s=1;s=2;}");
        is("nor does the other one's", x.meet(0, 0, 1, 1), 0);
        is("the last of them", x.meet(0, 0, 1, 2), 0);
    }

    /** "OUTSIDE (also if it is one thread)" */
    private static void meetOutside() {
        RaceLocks x = Due.with("thread a{r=1;r=2;}thread b{s=1;}thread c{}");
        is("two steps", x.meet(0, 1, 1, 0), 1);
        is("one thread", x.meet(0, 0, 0, 1), OUTSIDE);
        is("one step", x.meet(0, 0, 0, 0), OUTSIDE);
        is("a step too far", x.meet(0, 2, 1, 0), OUTSIDE);
        is("the other step too far", x.meet(0, 0, 1, 1), OUTSIDE);
        is("a thread without steps", x.meet(0, 0, 2, 0), OUTSIDE);
        is("the same first", x.meet(2, 0, 0, 0), OUTSIDE);
        is("no thread", x.meet(3, 0, 0, 0), OUTSIDE);
        is("no other thread", x.meet(0, 0, 3, 0), OUTSIDE);
        for (int wrong : FAR) {
            is("thread " + wrong, x.meet(wrong, 0, 1, 0), OUTSIDE);
            is("step " + wrong, x.meet(0, wrong, 1, 0), OUTSIDE);
            is("other thread " + wrong, x.meet(0, 0, wrong, 0), OUTSIDE);
            is("other step " + wrong, x.meet(0, 0, 1, wrong), OUTSIDE);
            is("all " + wrong, x.meet(wrong, wrong, wrong, wrong), OUTSIDE);
        }
        is("nothing there", Due.with("").meet(0, 0, 1, 0), OUTSIDE);
    }

    private static void doubt(RaceLocks x, int k, int... due) {
        for (int what = 0; what < 5; what++) {
            is("doubt " + k + " " + what, x.doubt(k, what), due[what]);
        }
        is("doubt " + k + " 5", x.doubt(k, 5), OUTSIDE);
        for (int wrong : FAR) {
            is("doubt " + k + " " + wrong, x.doubt(k, wrong), OUTSIDE);
        }
    }

    /** "A DOUBT is a pair of steps that would be a race, if they MEET and no lock is HELD at both; in order as races." */
    private static void doubts() {
        String[] both = {"r=f;", "f=1;"};
        for (String sort : new String[] {"field", "open"}) {
            for (int a = 0; a < 2; a++) {
                for (int b = 0; b < 2; b++) {
                    RaceLocks x = Due.with(sort + " f;thread a{" + both[a] + "}thread b{" + both[b] + "}");
                    is("doubts", x.doubts(), sort.equals("open") || a + b == 0 ? 0 : 1);
                    is("doubt 0", x.doubt(0, 4), x.doubts() == 0 ? OUTSIDE : 0);
                    is("doubt 1", x.doubt(1, 4), OUTSIDE);
                }
            }
        }
        String told = "field f;field g;" + LOCKS4;
        is("one lock at both", Due.with(told + "thread a{lock k{f=1;}}thread b{lock k{f=1;}}").doubts(), 0);
        is("the last lock at both", Due.with(told + "thread a{lock n{lock k{f=1;}}}thread b{lock l{lock n{f=1;}}}").doubts(), 0);
        is("other locks", Due.with(told + "thread a{lock k{lock m{f=1;}}}thread b{lock l{lock n{f=1;}}}").doubts(), 1);
        is("a lock at one", Due.with(told + "thread a{lock k{f=1;}}thread b{f=1;}").doubts(), 1);
        is("a lock that is left again", Due.with(told + "thread a{lock k{}f=1;}thread b{lock k{f=1;}}").doubts(), 1);
        is("a lock that is waited for is held all the same", Due.with(told + "thread a{lock k{wait k;f=1;}}thread b{lock k{f=1;}}").doubts(), 0);
        is("two fields", Due.with(told + "thread a{f=1;}thread b{g=1;}").doubts(), 0);
        is("they do not meet", Due.with(told + "thread a{f=1;start b;}thread b{f=1;}").doubts(), 0);
        is("in one thread", Due.with(told + "thread a{f=1;f=2;}").doubts(), 0);
        is("though it never happens", Due.with(told + "thread a{if 1<0{f=1;}}thread b{f=1;}").doubts(), 1);
        is("nothing there", Due.with("").doubts(), 0);
        is("doubt of nothing", Due.with("").doubt(0, 0), OUTSIDE);
        RaceLocks x = Due.with("field e;field f;thread a{f=1;r=f;}thread b{f=2;e=1;}thread c{r=f;f=3;}thread d{r=e;}");
        is("doubts", x.doubts(), 8);
        doubt(x, 0, 0, 0, 1, 0, 1);
        doubt(x, 1, 0, 0, 2, 0, 1);
        doubt(x, 2, 0, 0, 2, 1, 1);
        doubt(x, 3, 0, 1, 1, 0, 1);
        doubt(x, 4, 0, 1, 2, 1, 1);
        doubt(x, 5, 1, 0, 2, 0, 1);
        doubt(x, 6, 1, 0, 2, 1, 1);
        doubt(x, 7, 1, 1, 3, 0, 0);
        is("doubt 8", x.doubt(8, 0), OUTSIDE);
        for (int wrong : FAR) {
            is("doubt " + wrong, x.doubt(wrong, 0), OUTSIDE);
        }
    }

    /** All pairs of 24 steps in each of four threads. */
    private static void doubtsFull() {
        String text = "field a;field b;field c;field d;field e;field f;";
        for (char name = 'p'; name <= 's'; name++) {
            text += "thread " + name + "{" + times(24, "f=1;") + "}";
        }
        RaceLocks x = Due.with(text);
        is("doubts", x.doubts(), 6 * 576);
        doubt(x, 0, 0, 0, 1, 0, 5);
        doubt(x, 23, 0, 0, 1, 23, 5);
        doubt(x, 24, 0, 0, 2, 0, 5);
        doubt(x, 71, 0, 0, 3, 23, 5);
        doubt(x, 72, 0, 1, 1, 0, 5);
        doubt(x, 24 * 72, 1, 0, 2, 0, 5);
        doubt(x, 3455, 2, 23, 3, 23, 5);
        is("doubt 3456", x.doubt(3456, 0), OUTSIDE);
        is("guards", x.guards(5), 0);
        is("guards of one that is not touched", x.guards(4), 0);
    }

    /** "A field is GUARDED by a lock that is HELD at all steps that READ or WRITE it", "(all locks, if no step reads or writes it)" */
    private static void guards() {
        for (int locks = 0; locks <= 4; locks++) {
            RaceLocks x = Due.with("field f;open g;" + LOCKS4.substring(0, 7 * locks) + "thread t{r=1;}");
            is("all of " + locks, x.guards(0), (1 << locks) - 1);
            is("of an open one, too", x.guards(1), (1 << locks) - 1);
            is("one behind", x.guards(2), OUTSIDE);
        }
        String told = "field f;open g;" + LOCKS4 + "thread t{";
        is("one step without", Due.with(told + "f=1;}").guards(0), 0);
        is("one step with all", Due.with(told + "lock k{lock l{lock m{lock n{r=f;}}}}}").guards(0), 15);
        is("the other field has all", Due.with(told + "f=1;}").guards(1), 15);
        is("one READ without", Due.with(told + "lock n{f=1;}r=f;}").guards(0), 0);
        is("one WRITE without", Due.with(told + "lock n{r=f;}f=r;}").guards(0), 0);
        is("an open one", Due.with(told + "lock n{g=1;lock k{r=g;}}}").guards(1), 8);
        is("in two threads", Due.with(told + "lock n{lock l{f=1;}}}thread u{lock l{lock m{r=f;}}}").guards(0), 2);
        is("in four threads", Due.with(told + "lock k{f=1;}}thread u{lock k{f=1;}}thread v{lock k{f=1;}}thread w{f=1;}").guards(0), 0);
        is("the 24th step", Due.with(told + "lock k{" + times(10, "f=1;") + "}" + times(11, "r=1;") + "f=1;}").guards(0), 0);
        RaceLocks x = Due.with("field a;field b;field c;field d;field e;field f;lock k;thread t{lock k{f=1;}e=1;}");
        int[] due = {1, 1, 1, 1, 0, 1};
        for (int field = 0; field < 6; field++) {
            is("guards " + field, x.guards(field), due[field]);
        }
        is("guards 6", x.guards(6), OUTSIDE);
        for (int wrong : FAR) {
            is("guards " + wrong, x.guards(wrong), OUTSIDE);
        }
        is("no field", Due.with("lock k;").guards(0), OUTSIDE);
    }

    private static int rings(String threads) {
        return Due.with(LOCKS4 + threads).rings();
    }

    /** "a row of 2 .. 4 takings of different threads, of different locks", "no lock is HELD at two of them, and each two MEET" */
    private static void ringsOfTwo() {
        is("nothing there", Due.with("").rings(), 0);
        is("one thread, one taking", rings("thread a{lock k{}}"), 0);
        is("one taking of its own lock", rings("thread a{lock k{lock k{}}}"), 0);
        is("of one thread alone", rings("thread a{lock k{lock l{}}lock l{lock k{}}}"), 0);
        is("two", rings("thread a{lock k{lock l{}}}thread b{lock l{lock k{}}}"), 1);
        is("two, the last locks", rings("thread c{}thread d{}thread a{lock n{lock m{}}}thread b{lock m{lock n{}}}"), 1);
        is("held further out", rings("thread a{lock k{lock m{lock l{}}}}thread b{lock l{lock n{lock k{}}}}"), 1);
        is("nothing is held at one of them", rings("thread a{lock k{lock l{}}}thread b{lock l{}lock k{}}"), 0);
        is("the last one's lock is not held at the first", rings("thread a{lock k{lock l{}}}thread b{lock l{lock m{}}}"), 0);
        is("a lock held at both", rings("thread a{lock m{lock k{lock l{}}}}thread b{lock m{lock l{lock k{}}}}"), 0);
        is("which is in a ring itself", rings("thread a{lock m{lock k{lock l{}}}}thread b{lock l{lock m{lock k{}}}}"), 1);
        is("a lock taken again inside", rings("thread a{lock k{lock l{lock k{}}}}thread b{lock l{lock k{}}}"), 1);
        is("they do not meet", rings("thread a{lock k{lock l{}}start b;}thread b{lock l{lock k{}}}"), 0);
        is("they may", rings("thread a{start b;lock k{lock l{}}}thread b{lock l{lock k{}}}"), 1);
        is("it cannot be come to", rings("thread a{stop;lock k{lock l{}}}thread b{lock l{lock k{}}}"), 0);
        is("one and two", rings("thread a{lock k{lock l{}}}thread b{lock l{lock k{}lock k{}}}"), 2);
        is("all three pairs", rings("thread a{lock k{lock l{}}lock l{lock k{}}}thread b{lock k{lock l{}}lock l{lock k{}}}"
                + "thread c{lock k{lock l{}}lock l{lock k{}}}"), 6);
    }

    /** "each one's lock is HELD at the next one (and the last one's at the first)", "rows that are turned round are one" */
    private static void ringsOfMore() {
        String[] rows = {"lock k{lock l{}}", "lock l{lock m{}}", "lock m{lock n{}}", "lock n{lock k{}}"};
        int[][] orders = {{0, 1, 2, 3}, {1, 2, 3, 0}, {3, 2, 1, 0}, {0, 2, 1, 3}, {2, 0, 3, 1}, {1, 0, 3, 2}};
        for (int[] order : orders) {
            String text = "";
            for (int i = 0; i < 4; i++) {
                text += "thread t" + i + "{" + rows[order[i]] + "}";
            }
            is("four in the order of " + text, rings(text), 1);
            is("but for one", rings(text.replace("lock n{lock k{}}", "lock n{}")), 0);
        }
        String[] three = {"lock k{lock l{}}", "lock l{lock m{}}", "lock m{lock k{}}"};
        int[][] orders3 = {{0, 1, 2}, {0, 2, 1}, {1, 0, 2}, {1, 2, 0}, {2, 0, 1}, {2, 1, 0}};
        for (int[] order : orders3) {
            String text = "";
            for (int i = 0; i < 3; i++) {
                text += "thread t" + i + "{" + three[order[i]] + "}";
            }
            is("three in the order of " + text, rings(text), 1);
            is("beside one that has no part", rings(text + "thread u{lock n{lock k{}}}"), 1);
            is("one that could stand for another", rings(text + "thread u{" + three[order[0]] + "}"), 2);
        }
        is("two of three of the same thread", rings("thread a{lock k{lock l{}}lock l{lock m{}}}thread b{lock m{lock k{}}}"), 0);
        is("which is the greater one", rings("thread b{lock m{lock k{}}}thread a{lock k{lock l{}}lock l{lock m{}}}"), 0);
        is("two of four of the same thread", rings("thread a{" + rows[0] + "}thread b{" + rows[1] + rows[2] + "}thread c{" + rows[3] + "}"), 0);
        is("which is the greatest one", rings("thread a{" + rows[0] + "}thread b{" + rows[1] + "}thread c{" + rows[2] + rows[3] + "}"), 0);
        is("not beside one another", rings("thread a{" + rows[0] + "}thread b{" + rows[1] + rows[3] + "}thread c{" + rows[2] + "}"), 0);
        is("a lock held at two of three", rings("thread a{lock k{lock l{}}}thread b{lock n{lock l{lock m{}}}}thread c{lock n{lock m{lock k{}}}}"), 0);
        is("two of three do not meet", rings("thread a{lock k{lock l{}}start b;}thread b{lock l{lock m{}}}thread c{lock m{lock k{}}}"), 0);
        is("two of four do not meet", rings("thread a{lock k{lock l{}}start c;}thread b{lock l{lock m{}}}thread c{lock m{lock n{}}}"
                + "thread d{lock n{lock k{}}}"), 0);
        is("rings of two and of three", rings("thread a{lock k{lock l{}lock m{}}}thread b{lock l{lock m{}lock k{}}}thread c{lock m{lock k{}}}"), 3);
    }

    /** As many takings as 24 steps hold: eleven inside another one in each thread. */
    private static void ringsFull() {
        String[] names = {"k", "l", "m", "n"};
        for (int size = 2; size <= 4; size++) {
            String text = "";
            for (int i = 0; i < size; i++) {
                text += "thread t" + i + "{lock " + names[i] + "{" + times(11, "lock " + names[(i + 1) % size] + "{}") + "}}";
            }
            int due = 1;
            for (int i = 0; i < size; i++) {
                due *= 11;
            }
            is("eleven in each of " + size, rings(text), due);
        }
    }

    /** "takings": no other step is in a ring, though its field, lock or thread has a lock's number. */
    private static void ringsOfTakings() {
        String crossed = "lock l{lock k{}}";
        String told = "field e;field f;" + LOCKS4;
        is("a taking", Due.with(told + "thread a{lock k{lock l{}}}thread b{" + crossed + "}").rings(), 1);
        for (String step : new String[] {"r=f;", "f=1;", "r=1;", "wait l;", "wake l;", "wake all l;", "start b;", "join b;", "start a;",
            "join a;", "if 1<2{}", "while 1<2{}", "check 1<2;", "stop;"}) {
            is("none by " + step, Due.with(told + "thread a{lock k{" + step + "}}thread b{" + crossed + "}").rings(), 0);
            is("none by " + step, Due.with(told + "thread b{" + crossed + "}thread a{lock k{" + step + "}}").rings(), 0);
        }
    }

    /** Each of these calls may be the first one that is asked of a program, of a new object and of a used one. */
    private static void askedFirst() {
        String other = "field f;lock k;thread a{f=1;}thread b{stop;f=2;}thread c{r=f;}";
        String text = "field e;field f;lock k;lock l;thread a{f=1;start b;lock k{lock l{f=2;}}f=3;}thread b{lock l{lock k{r=f;}}}";
        for (int first = 0; first < 5; first++) {
            for (int used = 0; used < 2; used++) {
                RaceLocks x = new RaceLocks();
                if (used == 1) {
                    Due.read(x, other);
                    is("doubts of the other one", x.doubts(), 1);
                }
                Due.read(x, text);
                switch (first) {
                    case 0 -> is("doubts first", x.doubts(), 1);
                    case 1 -> doubt(x, 0, 0, 7, 1, 2, 1);
                    case 2 -> is("meet first", x.meet(0, 7, 1, 2), 1);
                    case 3 -> is("guards first", x.guards(1), 0);
                    default -> is("rings first", x.rings(), 1);
                }
                is("doubts", x.doubts(), 1);
                doubt(x, 0, 0, 7, 1, 2, 1);
                is("meet", x.meet(0, 7, 1, 2), 1);
                is("meet before the start", x.meet(0, 0, 1, 2), 0);
                is("guards of what no step touches", x.guards(0), 3);
                is("rings", x.rings(), 1);
            }
        }
    }
}
