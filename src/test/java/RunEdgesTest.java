/**
 * The document's sentences about how programs run that name an edge: each one stands above the tests that
 * would fail if it were broken.
 */
public final class RunEdgesTest {
    private static final int NONE = RaceLocks.NONE;
    private static final int STATE = RaceLocks.STATE;
    private static final int OUTSIDE = RaceLocks.OUTSIDE;
    private static final int MANY = RaceLocks.MANY;
    private static final int UNSTARTED = 0, RUNS = 1, WAITS = 2, WOKEN = 3, ENDED = 4, FAILED = 5;
    private static final int[] FAR = {Integer.MIN_VALUE, -2, -1, Integer.MAX_VALUE};

    public static void main(String[] args) {
        firstFields();
        firstLocks();
        firstThreads();
        takingLocks();
        takingOftenAtMost();
        joining();
        wokenOnes();
        waiting();
        waking();
        starting();
        checking();
        stopping();
        noLocksAnyMore();
        ifAndWhile();
        modulo8();
        numbering();
        statesAtMost();
        longestSchedule();
        lastStates();
        races();
        racesFull();
        outcomes();
        outcomesApart();
        outcomesOfFailed();
        outcomesFull();
        readingFields();
        failedStates();
        threadEdges();
        stuckKinds();
        atOnce();
        atOnceLasts();
        atOnceAtMost();
        scheduleIsTold();
        partsOfSteps();
        Due.close("RunEdgesTest");
    }

    private static void is(String what, long got, long want) {
        Due.is(what, got, want);
    }

    private static String times(int n, String text) {
        return text.repeat(n);
    }

    private static RaceLocks ran(String text, int states) {
        RaceLocks x = Due.with(text);
        is("states of " + text, x.run(), states);
        return x;
    }

    private static void found(RaceLocks x, int... due) {
        for (int what = 0; what < 5; what++) {
            is("found " + what, x.found(what), due[what]);
        }
    }

    private static void schedule(RaceLocks x, int... due) {
        is("length", x.length(), due.length);
        for (int i = 0; i < due.length; i++) {
            is("who " + i, x.who(i), due[i]);
        }
        is("who behind all", x.who(due.length), OUTSIDE);
        for (int wrong : FAR) {
            is("who " + wrong, x.who(wrong), OUTSIDE);
        }
    }

    /** "At first the fields are as told (0 without)" */
    private static void firstFields() {
        for (int value = 0; value <= 7; value++) {
            RaceLocks x = ran("field a=" + value + ";open b=" + (7 - value) + ";field c;open d;field e=7;open f=" + value + ";", 1);
            int[] due = {value, 7 - value, 0, 0, 7, value};
            for (int field = 0; field < 6; field++) {
                is("field " + field, x.field(0, field), due[field]);
            }
            is("field 6", x.field(0, 6), OUTSIDE);
        }
        is("field 0 of none", ran("", 1).field(0, 0), OUTSIDE);
    }

    /** "no lock is taken" */
    private static void firstLocks() {
        RaceLocks x = ran("lock k;lock l;lock m;lock n;thread a{lock k{lock l{lock m{lock n{}}}}}", 9);
        for (int lock = 0; lock < 4; lock++) {
            is("owner " + lock, x.owner(0, lock), NONE);
            for (int state = 0; state < 9; state++) {
                // the four are taken in states 1 .. 4, and left the other way round in 5 .. 8
                boolean taken = state > lock && state < 8 - lock;
                is("owner of " + lock + " in " + state, x.owner(state, lock), taken ? 0 : NONE);
            }
        }
        is("owner 4", x.owner(0, 4), OUTSIDE);
        is("owner of none", ran("", 1).owner(0, 0), OUTSIDE);
    }

    /** "threads that no statement starts are RUNNING at their first step (ENDED without one), others NOT STARTED" */
    private static void firstThreads() {
        RaceLocks x = Due.with("thread a{stop;start b;}thread b{r=1;}thread c{}thread d{if 1<0{start a;}}");
        x.run();
        Due.thread(x, 0, 0, UNSTARTED, 0, 0);
        Due.thread(x, 0, 1, UNSTARTED, 0, 0);
        Due.thread(x, 0, 2, ENDED, 0, 0);
        Due.thread(x, 0, 3, RUNS, 0, 1);
        x = Due.with("thread a{start a;}thread b{}thread c{start b;join b;}thread d{join d;}");
        x.run();
        Due.thread(x, 0, 0, UNSTARTED, 0, 0);
        Due.thread(x, 0, 1, UNSTARTED, 0, 0);
        Due.thread(x, 0, 2, RUNS, 0, 1);
        Due.thread(x, 0, 3, RUNS, 0, 0);
        x = ran("thread a{}thread b{}thread c{}thread d{}", 1);
        for (int thread = 0; thread < 4; thread++) {
            Due.thread(x, 0, thread, ENDED, 0, 0);
        }
        found(x, 1, 0, 0, 1, 0);
        // all wait for one another's 'start': an END at once
        x = ran("thread a{start b;}thread b{start a;}", 1);
        found(x, 1, 0, 0, 1, 0);
    }

    /** "its next step is none to take a lock that another one has"; "taking a lock: it has it once more; leaving it: once less" */
    private static void takingLocks() {
        RaceLocks x = Due.with("lock k;lock l;thread a{lock k{lock k{}}}thread b{lock k{}lock l{}}");
        int at = Due.where(x, RUNS, 1, RUNS, 0);
        is("its own lock can be taken", x.thread(at, 0, 2), 1);
        is("another one's not", x.thread(at, 1, 2), 0);
        at = Due.where(x, RUNS, 2, RUNS, 0);
        is("nor when it is had twice", x.thread(at, 1, 2), 0);
        at = Due.where(x, RUNS, 3, RUNS, 0);
        is("nor when it is had once again", x.thread(at, 1, 2), 0);
        is("who has it then", x.owner(at, 0), 0);
        at = Due.where(x, ENDED, 4, RUNS, 0);
        is("but when it is left as often", x.thread(at, 1, 2), 1);
        is("nobody has it", x.owner(at, 0), NONE);
        at = Due.where(x, RUNS, 1, RUNS, 0);
        is("a lock is no other one", x.owner(at, 1), NONE);
        at = Due.where(x, RUNS, 1, RUNS, 2);
        is("which can be taken", x.thread(at, 1, 2), 1);
        is("leaving a lock can always be done", x.thread(Due.where(x, RUNS, 0, RUNS, 1), 1, 2), 1);
    }

    /** As often as { can be in one another: seven times. */
    private static void takingOftenAtMost() {
        String often = times(7, "lock k{") + times(7, "}");
        RaceLocks x = Due.with("lock k;thread a{" + often + "}thread b{lock k{}}");
        for (int step = 0; step <= 14; step++) {
            int at = Due.where(x, step < 14 ? RUNS : ENDED, step, RUNS, 0);
            is("who has it", x.owner(at, 0), step > 0 && step < 14 ? 0 : NONE);
            is("whether b can step", x.thread(at, 1, 2), step > 0 && step < 14 ? 0 : 1);
        }
        // WOKEN it has it again as often as before
        x = Due.with("lock k;thread a{" + times(7, "lock k{") + "wait k;" + times(7, "}") + "}thread b{lock k{wake k;}}");
        for (int step = 0; step <= 7; step++) {
            is("up to its 'wait'", x.owner(Due.where(x, RUNS, step, RUNS, 0), 0), step > 0 ? 0 : NONE);
        }
        is("left altogether", x.owner(Due.where(x, WAITS, 7, RUNS, 0), 0), NONE);
        for (int step = 8; step <= 15; step++) {
            is("behind it", x.owner(Due.where(x, step < 15 ? RUNS : ENDED, step, ENDED, 3), 0), step < 15 ? 0 : NONE);
        }
    }

    /** "none to join a thread that is neither ENDED nor FAILED": all six ways in which it may be. */
    private static void joining() {
        RaceLocks x = Due.with("lock k;thread a{lock k{wait k;}}thread b{join a;}thread c{lock k{wake k;}}");
        is("RUNNING", x.thread(Due.where(x, RUNS, 0, RUNS, 0, RUNS, 0), 1, 2), 0);
        is("RUNNING inside", x.thread(Due.where(x, RUNS, 1, RUNS, 0, RUNS, 0), 1, 2), 0);
        is("WAITING", x.thread(Due.where(x, WAITS, 1, RUNS, 0, RUNS, 0), 1, 2), 0);
        is("WOKEN", x.thread(Due.where(x, WOKEN, 1, RUNS, 0, ENDED, 3), 1, 2), 0);
        is("ENDED", x.thread(Due.where(x, ENDED, 3, RUNS, 0, ENDED, 3), 1, 2), 1);
        x = Due.with("thread a{check 1<1;}thread b{join a;}thread c{if 1<0{start d;}}thread d{}");
        is("FAILED", x.thread(Due.where(x, FAILED, 0, RUNS, 0, RUNS, 0), 1, 2), 1);
        x = Due.with("thread a{join b;}thread c{if 1<0{start b;}}thread b{}");
        is("NOT STARTED, though it has no steps", x.thread(Due.where(x, RUNS, 0, ENDED, 2, UNSTARTED, 0), 0, 2), 0);
        is("it is STUCK", x.stuck(Due.where(x, RUNS, 0, ENDED, 2, UNSTARTED, 0)), 3);
        x = ran("thread a{join b;r=1;}thread b{}", 3);
        is("ENDED without steps", x.thread(0, 0, 2), 1);
        Due.thread(x, 2, 0, ENDED, 2, 0, 1);
        x = ran("thread a{join a;}", 1);
        is("itself", x.thread(0, 0, 2), 0);
        // "'join', when it can step: nothing"
        x = ran("field f=5;lock k;thread a{lock k{r=6;join b;}}thread b{}", 5);
        is("a's lock", x.owner(3, 0), 0);
        is("the field", x.field(3, 0), 5);
        Due.thread(x, 3, 0, RUNS, 3, 1, 6);
        Due.thread(x, 3, 1, ENDED, 0, 0);
    }

    /** "or when it is WOKEN, and nobody has its lock" */
    private static void wokenOnes() {
        RaceLocks x = Due.with("lock k;lock l;thread a{lock l{lock k{wait k;}}}thread b{lock k{wake k;}lock k{}}");
        int at = Due.where(x, WOKEN, 2, RUNS, 2);
        is("b still has the lock", x.thread(at, 0, 2), 0);
        at = Due.where(x, WOKEN, 2, RUNS, 3);
        is("nobody has it", x.thread(at, 0, 2), 1);
        is("a has its other lock all the time", x.owner(at, 1), 0);
        at = Due.where(x, WOKEN, 2, RUNS, 4);
        is("b has it again", x.thread(at, 0, 2), 0);
        at = Due.where(x, RUNS, 3, RUNS, 3);
        is("a has it", x.owner(at, 0), 0);
        is("so b cannot take it", x.thread(at, 1, 2), 0);
        // two that are WOKEN: one after the other
        x = Due.with("lock k;thread a{lock k{wait k;}}thread b{lock k{wait k;}}thread c{lock k{wake all k;}}");
        at = Due.where(x, WOKEN, 1, WOKEN, 1, RUNS, 2);
        is("a cannot yet", x.thread(at, 0, 2), 0);
        is("nor can b", x.thread(at, 1, 2), 0);
        at = Due.where(x, WOKEN, 1, WOKEN, 1, ENDED, 3);
        is("a can", x.thread(at, 0, 2), 1);
        is("so can b", x.thread(at, 1, 2), 1);
        at = Due.where(x, WOKEN, 1, RUNS, 2, ENDED, 3);
        is("b has it now", x.owner(at, 0), 1);
        is("a cannot", x.thread(at, 0, 2), 0);
    }

    /** "'wait': if it does not have that lock, it is FAILED; else it leaves it altogether, and is WAITING" */
    private static void waiting() {
        RaceLocks x = ran("lock k;lock l;thread a{lock l{wait k;}}", 3);
        Due.thread(x, 2, 0, FAILED, 1, 0);
        is("it has no lock", x.owner(2, 1), NONE);
        found(x, 1, 0, 0, 1, 1);
        x = ran("lock k;lock l;thread a{lock l{lock k{wait k;}}}", 4);
        Due.thread(x, 3, 0, WAITS, 2, 0);
        is("left", x.owner(3, 0), NONE);
        is("the other one is not", x.owner(3, 1), 0);
        found(x, 0, 1, 0, 1, 0);
        x = ran("lock k;lock l;thread a{lock l{lock k{wait l;}}}", 4);
        is("of two the one that is told", x.owner(3, 1), NONE);
        is("the other one is had", x.owner(3, 0), 0);
        // that another one has it is no help
        x = Due.with("lock k;thread a{lock k{join b;}}thread b{wait k;}");
        Due.where(x, RUNS, 1, FAILED, 0);
        // what is behind the lock's } has it no more
        x = ran("lock k;thread a{lock k{}wait k;}", 4);
        Due.thread(x, 3, 0, FAILED, 2, 0);
        x = ran("lock k;thread a{wait k;}", 2);
        Due.thread(x, 1, 0, FAILED, 0, 0);
    }

    /** "'wake': if it does not have the lock, it is FAILED; else of those that WAIT for it the one with the least number .." */
    private static void waking() {
        for (String wake : new String[] {"wake k;", "wake all k;"}) {
            RaceLocks x = ran("lock k;lock l;thread a{lock l{" + wake + "}}", 3);
            Due.thread(x, 2, 0, FAILED, 1, 0);
            // "none, if none waits"
            x = ran("lock k;thread a{lock k{" + wake + "}}thread b{}", 4);
            Due.thread(x, 3, 0, ENDED, 3, 0);
            // one that waits for another lock is not woken, and one that is WOKEN is not again
            x = Due.with("lock k;lock l;thread a{lock l{wait l;}}thread b{lock k{" + wake + wake + "}}");
            is("it waits for ever", x.stuck(Due.where(x, WAITS, 1, ENDED, 4)), 2);
            isNeverWoken(x, 0);
            // though its number is less than that of the one that is woken
            x = Due.with("lock k;lock l;thread a{lock l{wait l;}}thread b{lock k{wait k;}}thread c{lock k{" + wake + "}}");
            Due.where(x, WAITS, 1, WOKEN, 1, RUNS, 2);
            isNeverWoken(x, 0);
        }
        String three = "lock k;thread a{lock k{wait k;}}thread b{lock k{wait k;}}thread c{lock k{wait k;}}thread d{lock k{";
        RaceLocks x = Due.with(three + "wake k;wake k;}}");
        int at = Due.where(x, WAITS, 1, WAITS, 1, WAITS, 1, RUNS, 1);
        is("d can wake", x.thread(at, 3, 2), 1);
        Due.where(x, WOKEN, 1, WAITS, 1, WAITS, 1, RUNS, 2);
        Due.where(x, WOKEN, 1, WOKEN, 1, WAITS, 1, RUNS, 3);
        // without a it is b, without both it is c
        Due.where(x, RUNS, 0, WOKEN, 1, WAITS, 1, RUNS, 2);
        Due.where(x, RUNS, 0, RUNS, 0, WOKEN, 1, RUNS, 2);
        x = Due.with(three + "wake all k;}}");
        Due.where(x, WOKEN, 1, WOKEN, 1, WOKEN, 1, RUNS, 2);
        Due.where(x, RUNS, 0, WOKEN, 1, WOKEN, 1, RUNS, 2);
        Due.where(x, RUNS, 0, RUNS, 0, RUNS, 0, RUNS, 2);
        // a greater number wakes a lesser one and the other way round
        x = Due.with("lock k;thread a{lock k{wake k;}}thread b{lock k{wait k;}}");
        Due.where(x, RUNS, 2, WOKEN, 1);
    }

    private static void isNeverWoken(RaceLocks x, int thread) {
        int states = x.run();
        for (int state = 0; state < states; state++) {
            is("it is not woken", x.thread(state, thread, 0) != WOKEN);
        }
    }

    /** "'start': a thread that is NOT STARTED is RUNNING (ENDED without steps); any other: it is FAILED." */
    private static void starting() {
        RaceLocks x = ran("thread a{start b;r=1;}thread b{}", 3);
        Due.thread(x, 0, 1, UNSTARTED, 0, 0);
        Due.thread(x, 1, 1, ENDED, 0, 0);
        x = ran("thread a{start b;}thread b{s=1;}", 3);
        Due.thread(x, 1, 1, RUNS, 0, 1);
        // RUNNING, WAITING, WOKEN, ENDED, FAILED, and itself
        x = Due.with("lock k;thread a{start b;start b;}thread b{lock k{wait k;}}thread c{lock k{wake k;}}");
        Due.where(x, FAILED, 1, RUNS, 0, RUNS, 0);
        Due.where(x, FAILED, 1, WAITS, 1, RUNS, 0);
        Due.where(x, FAILED, 1, WOKEN, 1, ENDED, 3);
        Due.where(x, FAILED, 1, ENDED, 3, ENDED, 3);
        x = Due.with("thread a{start b;join b;start b;}thread b{check 1<1;}");
        Due.where(x, FAILED, 2, FAILED, 0);
        x = Due.with("thread a{start b;start b;}thread b{}");
        Due.where(x, FAILED, 1, ENDED, 0);
        x = ran("thread a{start b;}thread b{start b;}", 3);
        Due.thread(x, 2, 1, FAILED, 0, 0);
        // of two starters the later one fails, and b runs but once
        x = Due.with("thread a{start b;}thread b{s=1;}thread c{start b;}");
        Due.where(x, ENDED, 1, ENDED, 1, FAILED, 0);
        Due.where(x, FAILED, 0, ENDED, 1, ENDED, 1);
    }

    /** "'check': if the test is not so, it is FAILED"; all four signs with all values. */
    private static void checking() {
        String[] signs = {"==", "!=", "<", ">"};
        for (String sign : signs) {
            for (int left = 0; left < 8; left++) {
                for (int right = 0; right < 8; right++) {
                    boolean so = sign.equals("==") ? left == right : sign.equals("!=") ? left != right
                            : sign.equals("<") ? left < right : left > right;
                    RaceLocks x = ran("thread a{check " + left + sign + right + ";}", 2);
                    Due.thread(x, 1, 0, so ? ENDED : FAILED, so ? 1 : 0, 0);
                    is("failed", x.found(4), so ? 0 : 1);
                }
            }
        }
        RaceLocks x = ran("thread a{r=3;check r>2;check 2>r;r=4;}", 4);
        Due.thread(x, 3, 0, FAILED, 2, 0, 3);
    }

    /** "'stop': it is ENDED"; "of ENDED how many steps it has" */
    private static void stopping() {
        RaceLocks x = ran("thread a{r=1;stop;r=2;r=3;}", 3);
        Due.thread(x, 2, 0, ENDED, 4, 0, 1);
        x = ran("thread a{while 0<1{stop;}r=1;}", 3);
        Due.thread(x, 2, 0, ENDED, 3, 0, 0);
        x = ran("thread a{stop;}", 2);
        Due.thread(x, 1, 0, ENDED, 1, 0);
        x = ran("thread a{" + times(23, "check 0<1;") + "stop;}", 25);
        Due.thread(x, 24, 0, ENDED, 24, 0);
    }

    /** "Who is FAILED, or ENDED, has no locks any more." */
    private static void noLocksAnyMore() {
        String four = "lock k;lock l;lock m;lock n;";
        for (String over : new String[] {"stop;", "check 1<1;", "start a;"}) {
            String into = "lock k{lock l{lock m{lock n{lock k{";
            RaceLocks x = ran(four + "thread a{" + into + over + "}}}}}}" + (over.startsWith("start") ? "thread b{start a;}" : ""),
                    over.startsWith("start") ? 8 : 7);
            int last = x.show(2, 0);
            for (int lock = 0; lock < 4; lock++) {
                is("owner before", x.owner(last - 1, lock), 0);
                is("owner then", x.owner(last, lock), NONE);
            }
        }
        RaceLocks x = Due.with("lock k;thread a{lock k{lock k{stop;}}}thread b{lock k{}}");
        int at = Due.where(x, ENDED, 5, RUNS, 0);
        is("b can take it", x.thread(at, 1, 2), 1);
        x = Due.with("lock k;lock l;thread a{lock k{wait l;}}thread b{lock k{}}");
        at = Due.where(x, FAILED, 1, RUNS, 0);
        is("b can take it", x.thread(at, 1, 2), 1);
        // and a WOKEN one comes to its lock so
        x = Due.with("lock k;thread a{lock k{wait k;}}thread b{lock k{wake k;stop;}}");
        at = Due.where(x, WOKEN, 1, ENDED, 4);
        is("a can step", x.thread(at, 0, 2), 1);
    }

    /** "(of 'if' and 'while' as usual; behind the last one of a thread it is ENDED)" */
    private static void ifAndWhile() {
        RaceLocks x = ran("thread a{if 1<2{}}", 2);
        Due.thread(x, 1, 0, ENDED, 1, 0);
        x = ran("thread a{if 1<0{r=1;}}", 2);
        Due.thread(x, 1, 0, ENDED, 2, 0);
        x = ran("thread a{while 1<0{r=1;}}", 2);
        Due.thread(x, 1, 0, ENDED, 2, 0);
        x = ran("thread a{if 1<0{r=1;}else{r=2;}}", 3);
        Due.thread(x, 1, 0, RUNS, 2, 1);
        Due.thread(x, 2, 0, ENDED, 3, 0, 2);
        x = ran("thread a{if 0<1{r=1;}else{r=2;}}", 3);
        Due.thread(x, 2, 0, ENDED, 3, 0, 1);
        // a loop whose body is empty comes back to its own test
        x = ran("thread a{while 0<1{}}", 1);
        found(x, 0, 0, 0, 0, 0);
        // seven times round: two states each time, and two before, one behind
        x = ran("thread a{r=0;while r<7{r=r+1;}}", 17);
        Due.thread(x, 16, 0, ENDED, 3, 0, 7);
    }

    /** "All values are 0 .. 7 (modulo 8)." */
    private static void modulo8() {
        for (int left = 0; left < 8; left++) {
            for (int right = 0; right < 8; right++) {
                RaceLocks x = ran("field f;thread a{p=" + left + ";q=" + right + ";r=p+q;f=r;r=p-q;}thread b{r=" + left + "+" + right
                        + ";p=" + left + "-" + right + ";join a;}", 19);
                int last = x.show(2, 0);
                is("the sum", x.field(last, 0), (left + right) % 8);
                is("the rest", x.thread(last, 0, 5), (left - right + 8) % 8);
                is("the sum of NUMBERS", x.thread(last, 1, 3), (left + right) % 8);
                is("the rest of NUMBERS", x.thread(last, 1, 4), (left - right + 8) % 8);
            }
        }
        RaceLocks x = ran("thread a{while 0<1{r=r-1;}}", 16);
        Due.thread(x, 2, 0, RUNS, 0, 1, 7);
        x = ran("field f=7;thread a{r=f;r=r+1;f=r;r=r-1;f=r;}", 6);
        is("7 and 1", x.field(3, 0), 0);
        is("0 less 1", x.field(5, 0), 7);
        // the first and the last field, all full
        x = ran("field a=7;field b=7;field c=7;field d=7;field e=7;field f=7;thread t{a=0;f=0;c=1;}", 4);
        int[] due = {0, 7, 1, 7, 7, 0};
        for (int field = 0; field < 6; field++) {
            is("field " + field, x.field(3, field), due[field]);
        }
        // the locals do not touch one another
        x = ran("thread t{p=7;q=7;r=7;q=q+1;p=p+1;q=q-1;r=r+1;}", 8);
        Due.thread(x, 3, 0, RUNS, 3, 1, 7, 7, 7);
        Due.thread(x, 4, 0, RUNS, 4, 1, 7, 0, 7);
        Due.thread(x, 5, 0, RUNS, 5, 1, 0, 0, 7);
        Due.thread(x, 6, 0, RUNS, 6, 1, 0, 7, 7);
        Due.thread(x, 7, 0, ENDED, 7, 0, 0, 7, 0);
    }

    /** "0 is the first one; from 0, 1, .. on, the threads in order, each that can step: .. the next number, if it is new" */
    private static void numbering() {
        RaceLocks x = ran("thread a{r=1;r=2;}thread b{s=1;}", 6);
        int[][] due = {{0, 0}, {1, 0}, {0, 1}, {2, 0}, {1, 1}, {2, 1}};
        for (int state = 0; state < 6; state++) {
            is("a in " + state, x.thread(state, 0, 1), due[state][0]);
            is("b in " + state, x.thread(state, 1, 1), due[state][1]);
        }
        // of two ways the one by which it was found
        is("the end", x.show(2, 0), 5);
        schedule(x, 0, 0, 1);
        x = ran("thread a{r=1;}thread b{s=1;}thread c{q=1;}thread d{p=1;}", 16);
        is("the end", x.show(2, 0), 15);
        schedule(x, 0, 1, 2, 3);
        // a state that comes again is none that is new: the first one, too
        ran("thread a{while 0<1{}}thread b{while 0<1{}}", 1);
        ran("thread a{while 0<1{r=0;}}", 2);
    }

    /** Three threads of 20, 19 and 10 places, and one that joins: 3800 + 190 + 10 + 1 states, or less. */
    private static String joined(String joins) {
        return "thread a{" + times(19, "check 0<1;") + "}thread b{" + times(18, "check 0<1;") + "}thread c{"
                + times(9, "check 0<1;") + "}thread d{" + joins + "}";
    }

    /** "TOO MANY: more than 4000" */
    private static void statesAtMost() {
        RaceLocks x = ran(joined("join a;"), 3990);
        is("the one behind all", x.thread(3990, 0, 0), OUTSIDE);
        x = ran(joined("join a;join b;"), 4000);
        is("the last one", x.thread(3999, 3, 0), ENDED);
        is("the one behind it", x.thread(4000, 3, 0), OUTSIDE);
        is("its field", x.field(4000, 0), OUTSIDE);
        found(x, 1, 0, 0, 1, 0);
        x = Due.with(joined("join a;join b;join c;"));
        is("one more", x.run(), MANY);
        for (int what = -1; what <= 5; what++) {
            is("found " + what, x.found(what), STATE);
        }
        is("show", x.show(2, 0), STATE);
        is("the next program is not touched by it", Due.read(x, "thread a{stop;}"), 1);
        is("its states", x.run(), 2);
        x = Due.with("thread a{" + times(24, "check 0<1;") + "}thread b{" + times(24, "check 0<1;") + "}");
        is("24 steps in two threads", x.run(), 625);
        String four = "";
        for (char name = 'a'; name <= 'd'; name++) {
            four += "thread " + name + "{" + times(24, "r=1;") + "}";
        }
        is("24 steps in four threads", Due.with(four).run(), MANY);
        x = Due.with("");
        is("no thread at all", x.run(), 1);
        is("its state", x.show(2, 0), 0);
        is("no other one", x.stuck(0), OUTSIDE);
    }

    /**
     * One thread that counts through all values of its locals: 3984 steps from the loop's beginning to its
     * end, at which it is FAILED. Steps before it make it longer.
     */
    private static String counting(String before) {
        return before + "while 0<1{p=p+1;" + times(4, "check 0<1;") + "if p==0{q=q+1;" + times(4, "check 0<1;")
                + "if q==0{r=r+1;check r!=0;}}}}";
    }

    /** "How many steps the SCHEDULE told last has": 0, and 3999. */
    private static void longestSchedule() {
        RaceLocks x = ran("thread t{" + counting(times(9, "check 0<1;")), 3994);
        is("the end", x.show(2, 0), 3993);
        x = ran("thread t{" + lengthened(14), 3999);
        is("the end", x.show(2, 0), 3998);
        is("its length", x.length(), 3998);
        x = ran("thread t{" + lengthened(15), 4000);
        is("the state of who is FAILED", x.show(4, 0), 3999);
        is("its length", x.length(), 3999);
        is("who begins", x.who(0), 0);
        is("who ends", x.who(3998), 0);
        is("nobody behind", x.who(3999), OUTSIDE);
        is("nobody behind", x.who(4000), OUTSIDE);
        ran("thread t{" + lengthened(16), MANY);
    }

    /** 3984 steps and so many more, eight of them by one step that is done each time that r changes. */
    private static String lengthened(int more) {
        return counting(times(more - 8, "check 0<1;")).replace("r=r+1;", "r=r+1;check 0<1;");
    }

    /** "LAST are those in which nobody can step; .. an END, if all threads are ENDED, FAILED or NOT STARTED, else it is STUCK" */
    private static void lastStates() {
        found(ran("thread a{if 1<0{start b;}}thread b{}thread c{check 1<1;}", 4), 1, 0, 0, 1, 2);
        found(ran("thread a{join a;}thread b{if 1<0{start c;}}thread c{}thread d{check 1<1;}", 4), 0, 1, 0, 1, 2);
        found(ran("lock k;thread a{lock k{wait k;}}", 3), 0, 1, 0, 1, 0);
        found(ran("thread a{while 0<1{}}thread b{join b;}", 1), 0, 0, 0, 0, 0);
        RaceLocks x = ran("thread a{while 0<1{}}thread b{stop;}", 2);
        found(x, 0, 0, 0, 0, 0);
        for (int kind = 0; kind < 5; kind++) {
            is("show " + kind, x.show(kind, 0), OUTSIDE);
        }
        is("nothing is told", x.length(), STATE);
        // the first state is LAST
        x = ran("thread a{join a;}", 1);
        is("the first state is STUCK", x.show(1, 0), 0);
        schedule(x);
        is("and it is an OUTCOME", x.show(3, 0), 0);
    }

    private static void race(RaceLocks x, int k, int... due) {
        for (int what = 0; what < 5; what++) {
            is("race " + k + " " + what, x.race(k, what), due[what]);
        }
        is("race " + k + " 5", x.race(k, 5), OUTSIDE);
        is("race " + k + " -1", x.race(k, -1), OUTSIDE);
    }

    /** "a pair of steps of two threads .. a READ or WRITE of one field that is not open, one a WRITE at least" */
    private static void races() {
        String[] both = {"r=f;", "f=1;", "f=r;"};
        for (String sort : new String[] {"field", "open"}) {
            for (int a = 0; a < 3; a++) {
                for (int b = 0; b < 3; b++) {
                    RaceLocks x = Due.with(sort + " f;thread a{" + both[a] + "}thread b{" + both[b] + "}");
                    x.run();
                    is("races", x.found(2), sort.equals("open") || a + b == 0 ? 0 : 1);
                }
            }
        }
        RaceLocks x = Due.with("field f;field g;thread a{f=1;}thread b{g=1;}");
        x.run();
        is("two fields", x.found(2), 0);
        // "of RUNNING threads": one that is not started, waits, is woken or is over has no next step that counts
        x = Due.with("field f;thread a{f=1;start b;}thread b{f=2;}");
        x.run();
        is("not started", x.found(2), 0);
        x = Due.with("field f;thread a{f=1;}thread b{join a;f=2;}");
        x.run();
        is("joined", x.found(2), 0);
        // the order: first thread, its step, second thread, its step
        x = Due.with("field f;thread a{f=1;r=f;}thread b{f=2;}thread c{r=f;f=3;}");
        x.run();
        is("races", x.found(2), 7);
        race(x, 0, 0, 0, 1, 0, 0);
        race(x, 1, 0, 0, 2, 0, 0);
        race(x, 2, 0, 0, 2, 1, 0);
        race(x, 3, 0, 1, 1, 0, 0);
        race(x, 4, 0, 1, 2, 1, 0);
        race(x, 5, 1, 0, 2, 0, 0);
        race(x, 6, 1, 0, 2, 1, 0);
        for (int wrong : FAR) {
            is("race " + wrong, x.race(wrong, 0), OUTSIDE);
            is("what " + wrong, x.race(0, wrong), OUTSIDE);
        }
        is("race 7", x.race(7, 0), OUTSIDE);
        // "Its state is the least one"
        is("at once", x.show(0, 0), 0);
        is("when c has read", x.show(0, 2), 3);
        is("when a has written", x.show(0, 3), 1);
        is("when both have", x.show(0, 4), 6);
        is("one behind all", x.show(0, 7), OUTSIDE);
        x = ran("", 1);
        is("no race", x.race(0, 0), OUTSIDE);
    }

    /** As many races as 24 steps in two threads can have. */
    private static void racesFull() {
        RaceLocks x = Due.with("field f;thread a{" + times(24, "f=1;") + "}thread b{" + times(24, "f=1;") + "}");
        // f is 0 in the first state alone
        is("states", x.run(), 625);
        is("races", x.found(2), 576);
        race(x, 0, 0, 0, 1, 0, 0);
        race(x, 23, 0, 0, 1, 23, 0);
        race(x, 24, 0, 1, 1, 0, 0);
        race(x, 575, 0, 23, 1, 23, 0);
        is("race 576", x.race(576, 0), OUTSIDE);
        is("the state of the last one", x.thread(x.show(0, 575), 0, 1), 23);
        is("its schedule", x.length(), 46);
    }

    /** "OUTCOMES are the different rows of all fields' values, and of who is FAILED, in ENDS, and those of STUCK states, too .." */
    private static void outcomes() {
        // each of six fields tells outcomes apart, the open ones, too
        for (int field = 0; field < 6; field++) {
            String name = "" + (char) ('a' + field);
            String told = "field a;open b;field c;open d;field e;open f;thread t{" + name + "=1;}thread u{" + name + "=2;}";
            RaceLocks x = ran(told, 5);
            found(x, 2, 0, field % 2 == 0 ? 1 : 0, 2, 0);
            is("u's value is the last one first", x.field(x.show(3, 0), field), 2);
            is("then t's", x.field(x.show(3, 1), field), 1);
        }
        // each of four threads does
        String[] names = {"a", "b", "c", "d"};
        for (int failing = 0; failing < 4; failing++) {
            String text = "open f;";
            int setter = (failing + 1) % 4;
            for (int i = 0; i < 4; i++) {
                text += "thread " + names[i] + "{" + (i == failing ? "r=f;check r==0;" : i == setter ? "f=1;f=0;" : "") + "}";
            }
            RaceLocks x = Due.with(text);
            x.run();
            is("outcomes", x.found(3), 2);
            int first = x.show(3, 0);
            int second = x.show(3, 1);
            is("in order", first < second);
            is("one of them FAILED", x.thread(first, failing, 0) + x.thread(second, failing, 0), ENDED + FAILED);
        }
        // locals do not
        RaceLocks x = ran("open f;thread a{r=f;}thread b{f=1;}", 5);
        found(x, 2, 0, 0, 1, 0);
        is("the least state", x.show(3, 0), Math.min(x.show(2, 0), x.show(2, 1)));
        // where a thread stands does not, but whether it is STUCK does
        x = Due.with("open f;lock k;thread a{r=f;if r==0{join a;}else{check 0<1;join a;}}thread b{f=1;}");
        x.run();
        found(x, 0, 2, 0, 1, 0);
        x = Due.with("open f;thread a{r=f;if r==0{join a;}}thread b{f=1;}");
        x.run();
        found(x, 1, 1, 0, 2, 0);
    }

    private static void is(String what, boolean so) {
        Due.is(what, so);
    }

    /**
     * Each field's value, who is FAILED, and whether it is STUCK, each tells outcomes apart: a reads what b counts,
     * and then writes f, or is FAILED, or stands for ever, or does nothing. What b counts is 0 in the end.
     */
    private static void outcomesApart() {
        String[] names = {"a", "b", "c", "d", "e", "f"};
        for (int at = 0; at < 24; at++) {
            int field = at % 6;
            int chooser = at / 6;
            String told = "";
            for (int i = 0; i < 6; i++) {
                told += (i == (field + 1) % 6 ? "open z" : "field " + names[i]) + ";";
            }
            String[] threads = {"", "", "", ""};
            threads[(chooser + 1) % 4] = "z=1;z=2;z=3;z=0;";
            for (int value : new int[] {1, 2, 4, 7}) {
                threads[chooser] = "r=z;if r==1{" + names[field] + "=" + value + ";}if r==2{check 1<1;}if r==3{join t" + chooser + ";}";
                RaceLocks x = Due.with(told + "thread t0{" + threads[0] + "}thread t1{" + threads[1] + "}thread t2{" + threads[2]
                        + "}thread t3{" + threads[3] + "}");
                x.run();
                is("outcomes of field " + field + ", thread " + chooser + ", value " + value, x.found(3), 4);
            }
        }
    }

    /** Three threads that may be FAILED or not: all eight rows, with one that writes before, between and behind them. */
    private static void outcomesOfFailed() {
        for (int writer = 0; writer < 4; writer++) {
            String text = "open z;";
            for (int i = 0; i < 4; i++) {
                text += "thread t" + i + "{" + (i == writer ? "z=1;z=0;" : "r=z;check r==0;") + "}";
            }
            RaceLocks x = Due.with(text);
            x.run();
            is("outcomes", x.found(3), 8);
            // the same with one that stands for ever behind its writes: STUCK ones are as many
            x = Due.with(text.replace("z=1;z=0;", "z=1;z=0;join t" + writer + ";"));
            x.run();
            is("ends", x.found(0), 0);
            is("outcomes", x.found(3), 8);
        }
    }

    /** "r=x": into each of the three locals, from each of the six fields. */
    private static void readingFields() {
        String told = "field a=1;open b=2;field c=3;open d=4;field e=5;open f=6;thread t{";
        String[] fields = {"a", "b", "c", "d", "e", "f"};
        for (int i = 0; i < 6; i++) {
            Due.thread(ran(told + "p=" + fields[i] + ";q=7;r=7;}", 4), 3, 0, ENDED, 3, 0, i + 1, 7, 7);
            Due.thread(ran(told + "p=7;q=" + fields[i] + ";r=7;}", 4), 3, 0, ENDED, 3, 0, 7, i + 1, 7);
            Due.thread(ran(told + "p=7;q=7;r=" + fields[i] + ";}", 4), 3, 0, ENDED, 3, 0, 7, 7, i + 1);
            RaceLocks x = ran(told + "p=7;q=5;r=3;" + fields[i] + "=q;}", 5);
            for (int field = 0; field < 6; field++) {
                is("field " + field, x.field(4, field), field == i ? 5 : field + 1);
            }
        }
    }

    /** Two readers of what another one counts: all rows of two fields' values that do not fall. */
    private static void outcomesFull() {
        RaceLocks x = Due.with("open x;field a;field b;field c;thread p{x=1;x=2;x=3;x=4;x=5;x=6;x=7;}thread q{r=x;a=r;r=x;b=r;r=x;c=r;}");
        x.run();
        // three numbers 0 .. 7, none less than the one before: 10 over 3
        is("outcomes", x.found(3), 120);
        int before = NONE;
        for (int k = 0; k < 120; k++) {
            int state = x.show(3, k);
            is("in the order of the least states", state > before);
            before = state;
        }
        is("one behind all", x.show(3, 120), OUTSIDE);
        // the same with four: 11 over 4; its own steps at once, but for the first one, are no other ones
        x = Due.with("open x;field a;field b;field c;field d;thread p{x=1;x=2;x=3;x=4;x=5;x=6;x=7;}"
                + "thread q{r=x;a=r;r=x;b=r;r=x;c=r;r=x;span{d=r;check 0<1;}}");
        is("states of it", x.run() > 0);
        is("outcomes of four", x.found(3), 330);
        is("the last one", x.show(3, 329) > 0);
        is("one behind all of four", x.show(3, 330), OUTSIDE);
        is("at once", x.whole(0), 1);
    }

    /** "4 states in which some thread is FAILED": all of them, not the last ones alone. */
    private static void failedStates() {
        RaceLocks x = ran("thread a{check 1<1;}thread b{check 1<1;}thread c{r=1;}", 8);
        found(x, 1, 0, 0, 1, 6);
        int[] due = {1, 2, 4, 5, 6, 7};
        for (int k = 0; k < 6; k++) {
            is("show 4 " + k, x.show(4, k), due[k]);
        }
        is("show 4 6", x.show(4, 6), OUTSIDE);
    }

    /** "1 its next step (..)", "3 + i its local i (0 if there is none such, i 0 .. 2)" */
    private static void threadEdges() {
        RaceLocks x = ran("thread a{p=3;}thread b{}", 2);
        Due.thread(x, 1, 0, ENDED, 1, 0, 3, 0, 0);
        Due.thread(x, 1, 1, ENDED, 0, 0, 0, 0, 0);
        for (int wrong : FAR) {
            is("what " + wrong, x.thread(0, 0, wrong), OUTSIDE);
            is("thread " + wrong, x.thread(0, wrong, 0), OUTSIDE);
            is("state " + wrong, x.thread(wrong, 0, 0), OUTSIDE);
        }
        is("what 6", x.thread(0, 0, 6), OUTSIDE);
        is("thread 2", x.thread(0, 2, 0), OUTSIDE);
        is("state 2", x.thread(2, 0, 0), OUTSIDE);
        is("no thread at all", ran("", 1).thread(0, 0, 0), OUTSIDE);
        // FAILED keeps the step at which it did, and its locals
        x = ran("thread a{r=2;r=3;check r==2;r=4;}", 4);
        Due.thread(x, 3, 0, FAILED, 2, 0, 3);
    }

    /** "1 some threads stand in a ring ..; else 2 all that are not ENDED, FAILED, NOT STARTED are WAITING; else 3." */
    private static void stuckKinds() {
        String four = "lock k;lock l;lock m;lock n;";
        RaceLocks x = Due.with(four + "thread a{lock k{lock l{}}}thread b{lock l{lock k{}}}");
        is("two", x.stuck(Due.where(x, RUNS, 1, RUNS, 1)), 1);
        x = Due.with(four + "thread a{lock k{lock l{}}}thread b{lock l{lock m{}}}thread c{lock m{lock n{}}}thread d{lock n{lock k{}}}");
        is("four", x.stuck(Due.where(x, RUNS, 1, RUNS, 1, RUNS, 1, RUNS, 1)), 1);
        x = Due.with(four + "thread a{lock k{lock l{}}}thread b{lock m{lock n{}}}thread c{lock l{lock m{}}}thread d{lock n{lock k{}}}");
        is("four in another order", x.stuck(Due.where(x, RUNS, 1, RUNS, 1, RUNS, 1, RUNS, 1)), 1);
        // one that stands before the ring is not in it
        x = Due.with(four + "thread a{lock k{}}thread b{lock k{lock l{}}}thread c{lock l{lock k{}}}");
        is("one before it", x.stuck(Due.where(x, RUNS, 0, RUNS, 1, RUNS, 1)), 1);
        // a row that ends at one who joins, waits, is woken: no ring
        x = Due.with(four + "thread a{lock k{join b;}}thread b{lock l{lock k{}}}");
        is("a join in it", x.stuck(Due.where(x, RUNS, 1, RUNS, 1)), 3);
        x = Due.with(four + "thread a{lock k{lock l{wait l;}}}thread b{lock l{lock k{}}}");
        is("one that waits in it", x.stuck(Due.where(x, WAITS, 2, RUNS, 1)), 3);
        x = Due.with(four + "thread a{lock k{lock l{wait l;}}}thread b{lock l{wake l;lock k{}}}");
        is("one that is woken in it", x.stuck(Due.where(x, WOKEN, 2, RUNS, 2)), 3);
        // all wait: one, two, four, beside those that are over
        x = Due.with(four + "thread a{lock k{wait k;}}thread b{lock k{wait k;}}thread c{lock l{wait l;}}thread d{lock m{wait m;}}");
        is("all four wait", x.stuck(Due.where(x, WAITS, 1, WAITS, 1, WAITS, 1, WAITS, 1)), 2);
        x = Due.with(four + "thread a{lock k{wait k;}}thread b{if 1<0{start d;}}thread c{check 1<1;}thread d{}");
        is("one waits, others are over", x.stuck(Due.where(x, WAITS, 1, ENDED, 2, FAILED, 0, UNSTARTED, 0)), 2);
        x = Due.with(four + "thread a{lock k{wait k;}}thread b{lock l{lock m{}}}thread c{lock m{lock l{}}}");
        is("a ring comes before those that wait", x.stuck(Due.where(x, WAITS, 1, RUNS, 1, RUNS, 1)), 1);
        x = Due.with(four + "thread a{lock k{wait k;}}thread b{join b;}");
        is("one does not wait", x.stuck(Due.where(x, WAITS, 1, RUNS, 0)), 3);
        // OUTSIDE (it is none): an END, a state in which one can step, no state
        x = ran("thread a{r=1;}", 2);
        for (int state = -1; state <= 2; state++) {
            is("stuck " + state, x.stuck(state), OUTSIDE);
        }
        x = Due.with("lock k;thread a{lock k{wait k;}}thread b{lock k{}}");
        is("one waits, one can step", x.stuck(Due.where(x, WAITS, 1, RUNS, 0)), OUTSIDE);
        for (int wrong : FAR) {
            is("stuck " + wrong, x.stuck(wrong), OUTSIDE);
        }
        is("stuck behind all", x.stuck(x.run()), OUTSIDE);
    }

    private static int whole(String text) {
        RaceLocks x = Due.with(text);
        x.run();
        return x.whole(0);
    }

    /** "as long as a thread is RUNNING and the step that it did last and its next one are both in that span, nobody but it steps" */
    private static void atOnce() {
        String see = "thread b{r=f;g=r;}";
        String told = "field f;field g;lock k;thread a{";
        is("between two steps in it", whole(told + "span{f=1;f=2;}}" + see), 0);
        is("before its first one", whole(told + "f=1;span{f=2;}}" + see), 1);
        is("behind its last one", whole(told + "span{f=1;}f=2;}" + see), 1);
        is("between two spans", whole(told + "span{f=1;}span{f=2;}}" + see), 1);
        is("from the end of a span to its beginning", whole(told + "r=0;while r<2{span{f=1;r=r+1;}f=0;}}" + see), 1);
        is("a span that goes round alone", whole(told + "r=0;while r<2{span{r=r+1;f=r;}}}" + see), 1);
        is("a loop in the span", whole(told + "r=0;span{while r<2{r=r+1;f=r;}}}" + see), 0);
        is("one step in a loop round it", whole(told + "r=0;while r<7{r=r+1;span{f=r;}}}" + see), 1);
        is("nothing in it", whole(told + "f=1;span{}f=2;}" + see), 1);
        is("it is never come to", whole(told + "f=1;f=2;if 1<0{span{f=3;f=4;}}}" + see), 1);
        is("it stops inside", whole(told + "span{f=1;stop;f=2;}}" + see), 1);
        is("it fails inside", whole(told + "span{f=1;check 1<1;f=2;}}" + see), 1);
        is("what is done before it fails", whole(told + "span{f=1;f=2;check 1<1;}}" + see), 0);
        // "if it can": who must wait for others lets them step
        is("it joins inside", whole(told + "span{f=1;join b;f=2;}}" + see), 1);
        is("it waits inside", whole(told + "lock k{span{f=1;wait k;f=2;}}}thread b{lock k{r=f;g=r;wake k;}}"), 1);
        // WOKEN it is not RUNNING: the others step, though it can
        is("it is woken inside", whole(told + "lock k{span{wait k;f=1;}}}thread b{lock k{wake k;}r=f;g=r;}"), 1);
        is("behind its 'wait' it is RUNNING", whole(told + "lock k{span{wait k;f=1;f=2;}}}thread b{lock k{wake k;}r=f;g=r;}"), 0);
        is("which is in the span itself", whole(told + "lock k{wait k;span{f=1;f=2;}}}thread b{lock k{wake k;}r=f;g=r;}"), 0);
        is("or is not, and is behind it at once", whole(told + "lock k{wait k;span{f=1;}f=2;}}thread b{lock k{wake k;}r=f;g=r;}"), 1);
        is("it must wait for a lock inside", whole(told + "span{f=1;lock k{f=2;}}}thread b{lock k{r=f;g=r;}}"), 1);
        is("it must not", whole(told + "span{f=1;lock k{f=2;}}}" + see), 0);
        // the other threads have no part in it
        is("the other one's steps are not at once", whole("field f;field g;thread b{r=f;g=r;}thread a{span{f=1;f=2;}}"), 0);
        RaceLocks x = Due.with("field f;field g;thread a{span{f=1;f=2;}}thread b{span{r=f;g=r;}}thread c{span{}span{stop;}}");
        x.run();
        int[] due = {0, 1, 1, 1};
        for (int span = 0; span < 4; span++) {
            is("whole " + span, x.whole(span), due[span]);
        }
        for (int wrong : FAR) {
            is("whole " + wrong, x.whole(wrong), OUTSIDE);
        }
        is("whole 4", x.whole(4), OUTSIDE);
        is("a program without a span", whole(told + "}"), OUTSIDE);
    }

    /** "Whether the OUTCOMES with a SPAN AT ONCE are the same": fields, who is FAILED, STUCK or not. */
    private static void atOnceLasts() {
        is("who is FAILED", whole("open f;thread a{span{f=1;f=0;}}thread b{r=f;check r==0;}"), 0);
        is("nobody is", whole("open f;thread a{span{f=1;f=0;}}thread b{r=f;check r<2;}"), 1);
        is("all stand for ever", whole("open f;thread a{span{f=1;f=0;}}thread b{r=f;if r==1{join b;}}"), 0);
        is("a ring that the span does not keep away", whole("lock k;lock l;thread a{lock k{span{lock l{}}}}thread b{lock l{lock k{}}}"), 1);
        is("a ring that it keeps away", whole("lock k;lock l;thread a{span{lock k{lock l{}}}}thread b{lock l{lock k{}}}"), 1);
        is("both in spans, one at once", whole("lock k;lock l;thread a{span{lock k{lock l{}}}}thread b{span{lock l{lock k{}}}}"), 1);
        // in another order, but the same ones
        is("in another order", whole("open f;thread a{span{f=1;r=0;r=1;r=2;}}thread b{f=2;}"), 1);
    }

    /**
     * Thread a comes to its 'join' from inside the span or from elsewhere: with the span at once these are two
     * states, without it is one. Before it are ten states, and two more for each step put in front; behind it
     * the counting has 3985 states, and one more for each step put before it.
     */
    private static RaceLocks oneMoreAtOnce(int inFront, int before) {
        return Due.with("field z;thread a{" + times(inFront, "check 0<1;") + "q=z;if q==0{span{q=0;}}else{q=0;}join b;"
                + counting(times(before, "check 0<1;")) + "thread b{z=1;}");
    }

    /** "MANY (of these, too, are more than 4000)", "whether the step that a thread did last was in the span belongs to the STATE" */
    private static void atOnceAtMost() {
        RaceLocks x = oneMoreAtOnce(2, 0);
        is("states", x.run(), 3999);
        is("4000 with the span at once", x.whole(0), 1);
        x = oneMoreAtOnce(2, 1);
        is("states", x.run(), 4000);
        is("4001 with the span at once", x.whole(0), MANY);
        is("again", x.whole(0), MANY);
        is("what run() found is still there", x.found(4), 1);
        is("whole 1", x.whole(1), OUTSIDE);
        x = oneMoreAtOnce(3, 0);
        is("states", x.run(), MANY);
        is("whole", x.whole(0), STATE);
        is("whole 1", x.whole(1), STATE);
        // "but for ENDED and FAILED ones, for which it is nothing": a is ENDED from inside the span or from
        // elsewhere, and all 3985 states of the counting come behind that
        x = Due.with("field z;thread a{q=z;if q==0{span{q=0;stop;}}else{q=0;stop;}}thread b{join a;join c;" + counting("")
                + "thread c{z=1;}");
        is("states", x.run(), 4000);
        is("not twice as many at once", x.whole(0), 1);
    }

    /** "its SCHEDULE is told from now on, till run() or read() is asked" */
    private static void scheduleIsTold() {
        RaceLocks x = ran("field f;thread a{f=1;span{}}thread b{f=2;}", 5);
        is("nothing is told at first", x.length(), STATE);
        is("nobody", x.who(0), STATE);
        is("nobody at all", x.who(-1), STATE);
        is("show", x.show(2, 1), 4);
        schedule(x, 1, 0);
        x.feed(0, 0, 0, 0, 0);
        x.end(3);
        x.fault();
        x.count(0);
        x.step(0, 0, 0);
        x.found(0);
        x.race(0, 0);
        x.thread(1, 0, 0);
        x.field(0, 0);
        x.owner(0, 0);
        x.stuck(0);
        x.whole(0);
        x.doubts();
        x.doubt(0, 0);
        x.meet(0, 0, 1, 0);
        x.guards(0);
        x.rings();
        schedule(x, 1, 0);
        is("another one", x.show(0, 0), 0);
        schedule(x);
        is("run takes it back", x.run(), 5);
        is("nothing is told", x.length(), STATE);
        is("nobody", x.who(0), STATE);
        x.show(2, 0);
        schedule(x, 0, 1);
        x.end(0);
        x.read();
        is("read takes it back", x.length(), STATE);
        is("nobody", x.who(0), STATE);
        x.run();
        is("nor is it told after the next run", x.length(), STATE);
        x.show(2, 0);
        schedule(x);
        Due.read(x, "?");
        is("a read with a fault takes it back, too", x.length(), STATE);
    }

    /** "1 the field, lock, thread (NONE of others), 2 the step behind it (..), 3 that if the test is not so (NONE of others) .." */
    private static void partsOfSteps() {
        RaceLocks x = Due.with("field a;open b;field c;open d;field e;field f;lock k;lock l;lock m;lock n;thread t{f=1;r=a;start w;join u;"
                + "lock n{wait k;wake n;wake all l;}if 1<2{}while 1<2{}check 1<2;r=1;stop;}thread u{}thread v{}thread w{}");
        int[][] due = {{1, 5}, {0, 0}, {10, 3}, {11, 1}, {3, 3}, {7, 0}, {8, 3}, {9, 1}, {4, 3}, {5, NONE}, {6, NONE}, {12, NONE},
            {2, NONE}, {13, NONE}};
        for (int step = 0; step < due.length; step++) {
            is("kind of " + step, x.step(0, step, 0), due[step][0]);
            is("subject of " + step, x.step(0, step, 1), due[step][1]);
            int next = step == 10 ? 10 : step + 1;
            is("behind " + step, x.step(0, step, 2), next);
            is("else behind " + step, x.step(0, step, 3), step == 9 || step == 10 ? step + 1 : NONE);
            is("held at " + step, x.step(0, step, 4), step >= 5 && step <= 8 ? 8 : 0);
            is("span of " + step, x.step(0, step, 5), NONE);
            is("what 6", x.step(0, step, 6), OUTSIDE);
            is("what -1", x.step(0, step, -1), OUTSIDE);
        }
        is("step 14", x.step(0, 14, 0), OUTSIDE);
        is("a thread without steps", x.step(1, 0, 0), OUTSIDE);
        is("thread 4", x.step(4, 0, 0), OUTSIDE);
        // all four locks held: as deep as can be
        x = Due.with("lock k;lock l;lock m;lock n;thread t{lock n{lock m{lock l{lock k{stop;}}}}}");
        int[] held = {0, 8, 12, 14, 15, 15, 14, 12, 8};
        for (int step = 0; step < 9; step++) {
            is("held at " + step, x.step(0, step, 4), held[step]);
        }
        // "how many steps there are, if none is": of a last 'if', 'while', and of what is last inside them
        x = Due.with("thread t{if 1<2{r=1;}else{while 2<1{r=2;}}}thread u{while 1<2{stop;}}thread v{if 1<2{if 1<2{r=1;}}}");
        int[][] ways = {{0, 0, 1, 2}, {0, 1, 4, NONE}, {0, 2, 3, 4}, {0, 3, 2, NONE}, {1, 0, 1, 2}, {1, 1, 2, NONE},
            {2, 0, 1, 3}, {2, 1, 2, 3}, {2, 2, 3, NONE}};
        for (int[] way : ways) {
            is("behind " + way[0] + " " + way[1], x.step(way[0], way[1], 2), way[2]);
            is("else behind " + way[0] + " " + way[1], x.step(way[0], way[1], 3), way[3]);
        }
        // what is last inside a then-side goes behind the other side, the tests this way and that
        x = Due.with("thread t{if 1<2{if 1<2{r=1;}}else{r=2;}r=3;}thread u{if 1<2{while 1<2{}}else{if 1<2{}else{}}}"
                + "thread v{if 1<2{}else{if 1<2{r=1;}}if 1<2{}else{}stop;}thread w{while 1<2{if 1<2{if 1<2{}}else{r=1;}}}");
        int[][] sides = {{0, 0, 1, 3}, {0, 1, 2, 4}, {0, 2, 4, NONE}, {0, 3, 4, NONE}, {1, 0, 1, 2}, {1, 1, 1, 3}, {1, 2, 3, 3},
            {2, 0, 3, 1}, {2, 1, 2, 3}, {2, 2, 3, NONE}, {2, 3, 4, 4}, {3, 0, 1, 4}, {3, 1, 2, 3}, {3, 2, 0, 0}, {3, 3, 0, NONE}};
        for (int[] side : sides) {
            is("behind " + side[0] + " " + side[1], x.step(side[0], side[1], 2), side[2]);
            is("else behind " + side[0] + " " + side[1], x.step(side[0], side[1], 3), side[3]);
        }
        // 'stop' as the last of a loop's body, and of a then-side
        x = Due.with("thread t{while 1<2{r=1;stop;}if 1<2{stop;}else{r=2;}r=3;}");
        int[][] stops = {{1, 2}, {2, 7}, {3, 4}, {4, 7}, {5, 6}};
        for (int[] stop : stops) {
            is("behind " + stop[0], x.step(0, stop[0], 2), stop[1]);
        }
    }
}
