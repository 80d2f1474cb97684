/** Each promise of the document by hand: ordinary inputs, edges, wrong inputs. */
public final class PromisesTest {
    private static final int NONE = RaceLocks.NONE;
    private static final int STATE = RaceLocks.STATE;
    private static final int OUTSIDE = RaceLocks.OUTSIDE;
    private static final int MANY = RaceLocks.MANY;

    /** Two threads that both count a field up, without a lock. */
    private static final String COUNTING = "field x;thread a{r=x;r=r+1;x=r;}thread b{r=x;r=r+1;x=r;}";
    /** Two threads that take two locks in the two orders. */
    private static final String CROSSED = "lock l;lock m;thread a{lock l{lock m{}}}thread b{lock m{lock l{}}}";

    public static void main(String[] args) {
        promise1();
        promise2();
        promise3();
        promise4And5();
        promise6();
        promise7();
        promise8();
        promise9();
        promise10To12();
        promise13();
        promise14();
        waitAndWake();
        startJoinAndFailing();
        promise15And16();
        promise17();
        promise18();
        promise19And20();
        promise21();
        promise22();
        promise23();
        Due.close("PromisesTest");
    }

    private static void is(String what, long got, long want) {
        Due.is(what, got, want);
    }

    private static boolean feedThrows(RaceLocks x) {
        return Due.feedThrows(x, 1, 2, 3, 4, 5);
    }

    private static boolean endThrows(RaceLocks x, int n) {
        return Due.endThrows(x, n);
    }

    private static void is(String what, boolean got) {
        Due.is(what, got ? 1 : 0, 1);
    }

    /** All calls that need a program answer STATE, whatever their numbers are. */
    private static void isEmpty(String when, RaceLocks x) {
        for (int n : new int[] {-1, 0, 99}) {
            is("count " + when, x.count(n), STATE);
            is("step " + when, x.step(n, n, n), STATE);
            is("doubt " + when, x.doubt(n, n), STATE);
            is("meet " + when, x.meet(n, n, n, n), STATE);
            is("guards " + when, x.guards(n), STATE);
        }
        is("run " + when, x.run(), STATE);
        is("doubts " + when, x.doubts(), STATE);
        is("rings " + when, x.rings(), STATE);
        isUntried(when, x);
    }

    /** All calls that need run() answer STATE, whatever their numbers are. */
    private static void isUntried(String when, RaceLocks x) {
        for (int n : new int[] {-1, 0, 99}) {
            is("found " + when, x.found(n), STATE);
            is("show " + when, x.show(n, n), STATE);
            is("who " + when, x.who(n), STATE);
            is("race " + when, x.race(n, n), STATE);
            is("thread " + when, x.thread(n, n, n), STATE);
            is("field " + when, x.field(n, n), STATE);
            is("owner " + when, x.owner(n, n), STATE);
            is("stuck " + when, x.stuck(n), STATE);
            is("whole " + when, x.whole(n), STATE);
        }
        is("length " + when, x.length(), STATE);
    }

    private static void promise1() {
        RaceLocks x = new RaceLocks();
        isEmpty("of a new object", x);
        is("fault of a new object", x.fault(), 0);
        is("end(1) of an empty tape throws", endThrows(x, 1));
        is("end(0) of an empty tape does not throw", !endThrows(x, 0));
        is("read of the empty text", x.read(), 0);
        is("steps of the empty text", x.count(4), 0);
        is("states of the empty text", x.run(), 1);
        is("ends of the empty text", x.found(0), 1);
        is("outcomes of the empty text", x.found(3), 1);
        is("its state", x.show(2, 0), 0);
        is("the length of its schedule", x.length(), 0);
        is("who(0) of it", x.who(0), OUTSIDE);
    }

    private static void promise2() {
        RaceLocks x = new RaceLocks();
        for (int i = 1; i <= 75; i++) {
            is("feed " + i, x.feed(0x20202020, 0x20202020, 0x20202020, 0x20202020, 0x20202020), 20 * i);
        }
        is("feed behind 1500 throws", feedThrows(x));
        is("the tape still has 1500", !endThrows(x, 1500));
        x.end(1481);
        is("feed behind 1481 throws", feedThrows(x));
        x.end(1480);
        is("feed behind 1480", x.feed(0x20202020, 0x20202020, 0x20202020, 0x20202020, 0x2020203f), 1500);
        is("the last byte is the fifth number's lowest", x.read(), -1000 - 1499);
        is("of kind", x.fault(), 1);
        is("the tape is used up", x.feed(0, 0, 0, 0, 0), 20);
        x.end(0);
        // "thre" "ad t" "{sto" "p;}\n" "\n\n\n\n", each number's highest byte first
        x.feed(0x74687265, 0x61642074, 0x7b73746f, 0x703b7d0a, 0x0a0a0a0a);
        is("read of thread t{stop;}", x.read(), 1);
        x.feed(0x20202020, 0x202020ff, 0x20202020, 0x20202020, 0x20202020);
        is("a byte above 127", x.read(), -1000 - 7);
    }

    private static void promise3() {
        RaceLocks x = new RaceLocks();
        Due.feed(x, Due.bytes("thread t{stop;}stop;"));
        is("end(-1) throws", endThrows(x, -1));
        is("end(least) throws", endThrows(x, Integer.MIN_VALUE));
        is("end(21) throws", endThrows(x, 21));
        is("end(most) throws", endThrows(x, Integer.MAX_VALUE));
        is("end(20) does not throw", !endThrows(x, 20));
        is("end(15) does not throw", !endThrows(x, 15));
        is("end(16) throws then", endThrows(x, 16));
        is("read of what is left", x.read(), 1);
        is("end(1) throws as the tape is used up", endThrows(x, 1));
    }

    private static void promise4And5() {
        RaceLocks x = new RaceLocks();
        is("read", Due.read(x, COUNTING), 6);
        is("fault", x.fault(), 0);
        is("run", x.run(), 22);
        x.show(2, 0);
        is("a text with a fault", Due.read(x, "field a;field a;"), -1014);
        is("its kind", x.fault(), 3);
        isEmpty("after a fault", x);
        is("the kind stays", x.fault(), 3);
        is("the tape was used up: the empty text", x.read(), 0);
        is("no fault any more", x.fault(), 0);
        is("a program of nothing", x.count(2), 0);
        is("a fault at once", Due.read(x, "?"), -1000);
        is("of kind", x.fault(), 1);
        is("a fault at the end", Due.read(x, "thread a{  "), -1011);
        is("of kind", x.fault(), 2);
        is("too many", Due.read(x, "lock a;lock b;lock c;lock d;lock e;"), -1033);
        is("of kind", x.fault(), 4);
        is("never told", Due.read(x, "thread a{start b;}"), -1015);
        is("of kind", x.fault(), 5);
        is("a new program", Due.read(x, CROSSED), 8);
        isUntried("after read", x);
        x.run();
        is("another one", Due.read(x, COUNTING), 6);
        isUntried("after read", x);
        is("the one before is gone", x.count(1), 0);
    }

    private static void promise6() {
        RaceLocks x = Due.with("field a;open b;field c;lock k;lock l;thread t{span{stop;}span{}r=a;}thread u{stop;}"
                + "thread v{span{}}thread w{}");
        int[] due = {3, 2, 4, 3, 3};
        for (int what = 0; what < 5; what++) {
            is("count " + what, x.count(what), due[what]);
        }
        is("count -1", x.count(-1), OUTSIDE);
        is("count 5", x.count(5), OUTSIDE);
    }

    private static void steps(RaceLocks x, int thread, int[][] due) {
        for (int step = 0; step < due.length; step++) {
            for (int what = 0; what < 6; what++) {
                is("step " + thread + " " + step + " " + what, x.step(thread, step, what), due[step][what]);
            }
        }
        is("the step behind all of " + thread, x.step(thread, due.length, 0), OUTSIDE);
    }

    private static void promise7() {
        RaceLocks x = Due.with("field f;field g;lock k;lock l;thread t{r=g;g=1;r=r+1;lock l{span{wait l;wake k;}"
                + "wake all l;lock k{lock l{}}}start u;join t;check r<1;stop;}"
                + "thread u{r=0;if r==0{r=1;}else{r=2;r=3;}while r>4{if r==5{}span{stop;}}if r<1{}while r==7{}}");
        steps(x, 0, new int[][] {
            {0, 1, 1, NONE, 0, NONE},
            {1, 1, 2, NONE, 0, NONE},
            {2, NONE, 3, NONE, 0, NONE},
            {3, 1, 4, NONE, 0, NONE},
            {7, 1, 5, NONE, 2, 0},
            {8, 0, 6, NONE, 2, 0},
            {9, 1, 7, NONE, 2, NONE},
            {3, 0, 8, NONE, 2, NONE},
            {3, 1, 9, NONE, 3, NONE},
            {4, 1, 10, NONE, 3, NONE},
            {4, 0, 11, NONE, 3, NONE},
            {4, 1, 12, NONE, 2, NONE},
            {10, 1, 13, NONE, 0, NONE},
            {11, 0, 14, NONE, 0, NONE},
            {12, NONE, 15, NONE, 0, NONE},
            {13, NONE, 16, NONE, 0, NONE},
        });
        steps(x, 1, new int[][] {
            {2, NONE, 1, NONE, 0, NONE},
            {5, NONE, 2, 3, 0, NONE},
            {2, NONE, 5, NONE, 0, NONE},
            {2, NONE, 4, NONE, 0, NONE},
            {2, NONE, 5, NONE, 0, NONE},
            {6, NONE, 6, 8, 0, NONE},
            {5, NONE, 7, 7, 0, NONE},
            {13, NONE, 10, NONE, 0, 1},
            {5, NONE, 9, 9, 0, NONE},
            {6, NONE, 9, 10, 0, NONE},
        });
        // as deep as can be, with an 'else' there
        RaceLocks deep = Due.with("thread t{" + "if 0<1{".repeat(6) + "if 0<1{r=1;}else{r=2;}" + "}".repeat(6) + "r=3;}");
        steps(deep, 0, new int[][] {
            {5, NONE, 1, 9, 0, NONE},
            {5, NONE, 2, 9, 0, NONE},
            {5, NONE, 3, 9, 0, NONE},
            {5, NONE, 4, 9, 0, NONE},
            {5, NONE, 5, 9, 0, NONE},
            {5, NONE, 6, 9, 0, NONE},
            {5, NONE, 7, 8, 0, NONE},
            {2, NONE, 9, NONE, 0, NONE},
            {2, NONE, 9, NONE, 0, NONE},
            {2, NONE, 10, NONE, 0, NONE},
        });
        for (int wrong : new int[] {-1, 2, 4, Integer.MAX_VALUE, Integer.MIN_VALUE}) {
            is("step of thread " + wrong, x.step(wrong, 0, 0), OUTSIDE);
        }
        for (int wrong : new int[] {-1, 24, Integer.MAX_VALUE, Integer.MIN_VALUE}) {
            is("step " + wrong, x.step(0, wrong, 0), OUTSIDE);
        }
        for (int wrong : new int[] {-1, 6, Integer.MAX_VALUE, Integer.MIN_VALUE}) {
            is("what " + wrong, x.step(0, 0, wrong), OUTSIDE);
        }
    }

    private static String checks(String name, int times) {
        return "thread " + name + "{" + "check 0<1;".repeat(times) + "}";
    }

    private static void promise8() {
        is("states of the counting", Due.with(COUNTING).run(), 22);
        is("states of the crossed locks", Due.with(CROSSED).run(), 19);
        is("one thread of no step", Due.with("thread a{}").run(), 1);
        is("one thread of two steps", Due.with("thread a{r=1;r=2;}").run(), 3);
        is("a loop for ever", Due.with("thread a{while 0==0{}}").run(), 1);
        is("all values of a local", Due.with("thread a{while 0==0{r=r+1;}}").run(), 16);
        // three threads of 20, 19 and 10 places, and one that joins: 3800 + 190 + 10, and 1
        String three = checks("a", 19) + checks("b", 18) + checks("c", 9);
        RaceLocks x = Due.with(three + "thread d{join a;join b;}");
        is("just not too many", x.run(), 4000);
        is("the last state is the end", x.show(2, 0), 3999);
        is("its schedule", x.length(), 19 + 18 + 9 + 2);
        x = Due.with(three + "thread d{join a;join b;join c;}");
        is("one too many", x.run(), MANY);
        isUntried("when there are too many", x);
        is("again", x.run(), MANY);
        isUntried("when there are too many", x);
        is("but the text is there", x.count(4), 49);
        is("and judged", x.doubts(), 0);
        x = Due.with(COUNTING);
        is("run", x.run(), 22);
        is("run again", x.run(), 22);
    }

    private static void promise9() {
        RaceLocks x = Due.with(COUNTING);
        is("before run", x.found(0), STATE);
        x.run();
        int[] counting = {3, 0, 3, 2, 0};
        for (int what = 0; what < 5; what++) {
            is("found " + what, x.found(what), counting[what]);
        }
        is("found -1", x.found(-1), OUTSIDE);
        is("found 5", x.found(5), OUTSIDE);
        x = Due.with(CROSSED);
        x.run();
        int[] crossed = {1, 1, 0, 2, 0};
        for (int what = 0; what < 5; what++) {
            is("found " + what + " of crossed", x.found(what), crossed[what]);
        }
        // a fails before or after b's step: states 1 and 3 have a FAILED thread
        x = Due.with("thread a{check 1<1;}thread b{stop;}");
        is("states", x.run(), 4);
        int[] failing = {1, 0, 0, 1, 2};
        for (int what = 0; what < 5; what++) {
            is("found " + what + " of failing", x.found(what), failing[what]);
        }
        // the same fields, but in an end and where all stand for ever: two outcomes
        x = Due.with("open f;lock k;thread a{lock k{r=f;if r==0{wait k;}}}thread b{f=1;f=0;}");
        x.run();
        is("ends", x.found(0), 1);
        is("stuck ones", x.found(1), 1);
        is("outcomes", x.found(3), 2);
        // who is FAILED tells outcomes apart
        x = Due.with("field f;thread a{r=f;check r==0;f=0;}thread b{f=1;f=0;}");
        x.run();
        is("outcomes apart by who failed", x.found(3), 2);
    }

    private static void promise10To12() {
        RaceLocks x = Due.with(COUNTING);
        x.run();
        is("nothing is told", x.length(), STATE);
        is("nobody", x.who(0), STATE);
        is("show(1, 0)", x.show(1, 0), OUTSIDE);
        is("still nothing is told", x.length(), STATE);
        // the first race: a's read and b's write, which is b's third step
        is("show(0, 0)", x.show(0, 0), 5);
        schedule(x, 1, 1);
        is("show(0, 3)", x.show(0, 3), OUTSIDE);
        is("show(0, -1)", x.show(0, -1), OUTSIDE);
        is("show(-1, 0)", x.show(-1, 0), OUTSIDE);
        is("show(5, 0)", x.show(5, 0), OUTSIDE);
        schedule(x, 1, 1);
        is("show(0, 1)", x.show(0, 1), 3);
        schedule(x, 0, 0);
        is("show(0, 2)", x.show(0, 2), 12);
        schedule(x, 0, 0, 1, 1);
        is("show(2, 0)", x.show(2, 0), 19);
        schedule(x, 0, 0, 0, 1, 1, 1);
        is("show(3, 0)", x.show(3, 0), 19);
        is("show(3, 1)", x.show(3, 1), 20);
        schedule(x, 0, 0, 1, 0, 1, 1);
        is("show(3, 2)", x.show(3, 2), OUTSIDE);
        is("show(4, 0)", x.show(4, 0), OUTSIDE);
        x.run();
        is("run() takes it back", x.length(), STATE);
        is("who, too", x.who(0), STATE);
        x.show(2, 0);
        Due.read(x, COUNTING);
        is("read() takes it back", x.length(), STATE);
        x = Due.with(CROSSED);
        x.run();
        is("show(1, 0) of crossed", x.show(1, 0), 4);
        schedule(x, 0, 1);
        is("show(3, 0) of crossed", x.show(3, 0), 4);
        is("show(3, 1) of crossed", x.show(3, 1), 18);
        is("length", x.length(), 8);
        x = Due.with("thread a{check 1<1;}thread b{stop;}");
        x.run();
        is("show(4, 0)", x.show(4, 0), 1);
        schedule(x, 0);
        is("show(4, 1)", x.show(4, 1), 3);
        schedule(x, 0, 1);
        is("show(4, 2)", x.show(4, 2), OUTSIDE);
    }

    private static void schedule(RaceLocks x, int... due) {
        is("length", x.length(), due.length);
        for (int i = 0; i < due.length; i++) {
            is("who " + i, x.who(i), due[i]);
        }
        is("who behind all", x.who(due.length), OUTSIDE);
        is("who -1", x.who(-1), OUTSIDE);
    }

    private static void pairs(RaceLocks x, boolean race, int[][] due) {
        is(race ? "races" : "doubts", race ? x.found(2) : x.doubts(), due.length);
        for (int k = 0; k < due.length; k++) {
            for (int what = 0; what < 5; what++) {
                String call = (race ? "race " : "doubt ") + k + " " + what;
                is(call, race ? x.race(k, what) : x.doubt(k, what), due[k][what]);
            }
            for (int what : new int[] {-1, 5}) {
                is("what " + what, race ? x.race(k, what) : x.doubt(k, what), OUTSIDE);
            }
        }
        for (int k : new int[] {-1, due.length, Integer.MAX_VALUE, Integer.MIN_VALUE}) {
            is("pair " + k, race ? x.race(k, 0) : x.doubt(k, 0), OUTSIDE);
        }
    }

    private static void promise13() {
        RaceLocks x = Due.with(COUNTING);
        x.run();
        pairs(x, true, new int[][] {{0, 0, 1, 2, 0}, {0, 2, 1, 0, 0}, {0, 2, 1, 2, 0}});
        // three threads, two fields; open ones and reads alone do not race
        x = Due.with("field f;open o;field g;thread a{r=f;o=1;}thread b{g=1;o=2;}thread c{s=g;t=f;f=t;}");
        x.run();
        pairs(x, true, new int[][] {{0, 0, 2, 2, 0}, {1, 0, 2, 0, 2}});
        x = Due.with("open f;field g;open h;thread a{f=1;g=1;h=1;}thread b{h=2;g=2;f=2;}");
        x.run();
        pairs(x, true, new int[][] {{0, 1, 1, 1, 1}});
        x = Due.with("field f;lock k;thread a{lock k{f=1;}}thread b{lock k{f=2;}}");
        x.run();
        pairs(x, true, new int[][] {});
        // a lock that only one of them takes does not help; what never happens is no race
        x = Due.with("field f;lock k;thread a{lock k{f=1;}}thread b{f=2;if 1<0{f=3;}}");
        x.run();
        pairs(x, true, new int[][] {{0, 1, 1, 0, 0}});
        is("its state is the least one", x.show(0, 0), 1);
    }

    private static void thread(RaceLocks x, int state, int thread, int... due) {
        Due.thread(x, state, thread, due);
    }

    private static void promise14() {
        RaceLocks x = Due.with(COUNTING);
        x.run();
        thread(x, 0, 0, 1, 0, 1, 0);
        thread(x, 5, 0, 1, 0, 1, 0);
        thread(x, 5, 1, 1, 2, 1, 1);
        thread(x, 19, 0, 4, 3, 0, 1);
        thread(x, 19, 1, 4, 3, 0, 2);
        for (int wrong : new int[] {-1, 22, 4000, Integer.MAX_VALUE, Integer.MIN_VALUE}) {
            is("thread of state " + wrong, x.thread(wrong, 0, 0), OUTSIDE);
        }
        for (int wrong : new int[] {-1, 2, 4, Integer.MAX_VALUE, Integer.MIN_VALUE}) {
            is("thread " + wrong, x.thread(0, wrong, 0), OUTSIDE);
        }
        for (int wrong : new int[] {-1, 6, Integer.MAX_VALUE, Integer.MIN_VALUE}) {
            is("what " + wrong, x.thread(0, 0, wrong), OUTSIDE);
        }
        // locals in the order in which they come, sums modulo 8, all tests
        x = Due.with("thread a{p=q-1;r=q+7;r=r+r;if r==6{q=3;}else{q=4;}if r!=6{stop;}if p<r{stop;}if p>r{q=q+p;}}");
        is("states", x.run(), 10);
        thread(x, 1, 0, 1, 1, 1, 7, 0, 0);
        thread(x, 2, 0, 1, 2, 1, 7, 0, 7);
        thread(x, 3, 0, 1, 3, 1, 7, 0, 6);
        thread(x, 4, 0, 1, 4, 1, 7, 0, 6);
        thread(x, 5, 0, 1, 6, 1, 7, 3, 6);
        thread(x, 6, 0, 1, 8, 1, 7, 3, 6);
        thread(x, 7, 0, 1, 10, 1, 7, 3, 6);
        thread(x, 8, 0, 1, 11, 1, 7, 3, 6);
        thread(x, 9, 0, 4, 12, 0, 7, 2, 6);
        // a value is neither less nor more than itself
        x = Due.with("thread a{r=3;if r<3{stop;}if r>3{stop;}if 2<r{q=1;}if 4>r{q=q+2;}check q==3;}");
        is("states", x.run(), 9);
        thread(x, 8, 0, 4, 10, 0, 3, 3);
        // blocked by a lock: RUNNING, but it cannot step; stopping in a lock leaves it
        x = Due.with("lock k;thread a{lock k{stop;}}thread b{lock k{}}");
        x.run();
        thread(x, 1, 1, 1, 0, 0);
        is("state 3: a has stopped", x.thread(3, 0, 0), 4);
        thread(x, 3, 0, 4, 3, 0);
        thread(x, 3, 1, 1, 0, 1);
    }

    private static int where(RaceLocks x, int... due) {
        return Due.where(x, due);
    }

    private static final int UNSTARTED = 0, RUNS = 1, WAITS = 2, WOKEN = 3, ENDED = 4, FAILED = 5;

    private static void waitAndWake() {
        RaceLocks x = Due.with("lock k;thread a{lock k{lock k{wait k;}}}thread b{lock k{wake k;}}");
        is("a has k", x.owner(where(x, RUNS, 2, RUNS, 0), 0), 0);
        int at = where(x, WAITS, 2, RUNS, 0);
        is("who waits cannot step", x.thread(at, 0, 2), 0);
        is("who waits has left its lock altogether", x.owner(at, 0), NONE);
        is("so b can take it", x.thread(at, 1, 2), 1);
        at = where(x, WAITS, 2, RUNS, 1);
        is("b has it", x.owner(at, 0), 1);
        at = where(x, WOKEN, 2, RUNS, 2);
        is("who is woken cannot step while another one has the lock", x.thread(at, 0, 2), 0);
        at = where(x, WOKEN, 2, ENDED, 3);
        is("then it can", x.thread(at, 0, 2), 1);
        is("and does not yet have it", x.owner(at, 0), NONE);
        is("it has it again", x.owner(where(x, RUNS, 3, ENDED, 3), 0), 0);
        is("twice, as before", x.owner(where(x, RUNS, 4, ENDED, 3), 0), 0);
        is("and leaves it", x.owner(where(x, ENDED, 5, ENDED, 3), 0), NONE);
        // a woken one does not keep others from the lock
        x = Due.with("lock k;thread a{lock k{wait k;}}thread b{lock k{wake k;}lock k{}}");
        at = where(x, WOKEN, 1, RUNS, 3);
        is("both can step: a", x.thread(at, 0, 2), 1);
        is("both can step: b", x.thread(at, 1, 2), 1);
        // 'wake' wakes the least number alone, 'wake all' all of that lock; neither wakes for another lock
        String waiters = "lock k;lock l;thread a{lock l{wait l;}}thread b{lock k{wait k;}}thread c{lock k{wait k;}}";
        x = Due.with(waiters + "thread d{lock k{wake k;}}");
        where(x, WAITS, 1, WOKEN, 1, WAITS, 1, ENDED, 3);
        x = Due.with(waiters + "thread d{lock k{wake all k;}}");
        where(x, WAITS, 1, WOKEN, 1, WOKEN, 1, ENDED, 3);
        // none waits: nothing happens
        x = Due.with("lock k;thread a{lock k{wake k;wake all k;}}");
        is("states", x.run(), 5);
        thread(x, 4, 0, ENDED, 4, 0);
        // without the lock all three fail, and keep no other one
        for (String wrong : new String[] {"wait k;", "wake k;", "wake all k;"}) {
            x = Due.with("lock k;lock l;thread a{lock l{" + wrong + "}}");
            is("states", x.run(), 3);
            thread(x, 2, 0, FAILED, 1, 0);
            is("it has no lock any more", x.owner(2, 1), NONE);
            is("which is an end", x.found(0), 1);
        }
        // it does not help that another one has the lock
        x = Due.with("lock k;thread a{lock k{stop;}}thread b{wake k;}");
        where(x, RUNS, 1, FAILED, 0);
    }

    private static void startJoinAndFailing() {
        RaceLocks x = Due.with("thread a{start b;join b;start b;}thread b{r=1;}");
        is("states", x.run(), 5);
        thread(x, 0, 1, UNSTARTED, 0, 0);
        thread(x, 1, 1, RUNS, 0, 1);
        thread(x, 1, 0, RUNS, 1, 0);
        thread(x, 2, 0, RUNS, 1, 1);
        thread(x, 2, 1, ENDED, 1, 0, 1);
        thread(x, 4, 0, FAILED, 2, 0);
        is("an end", x.found(0), 1);
        is("a failure", x.found(4), 1);
        x = Due.with("thread a{start b;}thread b{}");
        is("states", x.run(), 2);
        thread(x, 0, 1, UNSTARTED, 0, 0);
        thread(x, 1, 1, ENDED, 0, 0);
        x = Due.with("thread a{}");
        x.run();
        thread(x, 0, 0, ENDED, 0, 0);
        x = Due.with("thread a{start a;}");
        is("who starts itself never runs", x.run(), 1);
        is("which is an end", x.found(0), 1);
        x = Due.with("thread a{if 1<0{start b;}}thread b{r=1;}");
        x.run();
        thread(x, 1, 1, UNSTARTED, 0, 0);
        is("an end with one that is not started", x.found(0), 1);
        x = Due.with("thread a{start b;}thread b{start b;}");
        is("who runs is not started again", x.run(), 3);
        thread(x, 2, 1, FAILED, 0, 0);
        x = Due.with("thread a{check 0>1;}thread b{join a;r=1;}");
        is("join of a failed one", x.run(), 4);
        thread(x, 0, 1, RUNS, 0, 0);
        thread(x, 1, 1, RUNS, 0, 1);
        x = Due.with("lock k;thread a{lock k{check 1!=1;}}thread b{lock k{}}");
        x.run();
        is("who has failed blocks nobody", x.found(1), 0);
        is("and is told in each state", x.show(4, 0), where(x, FAILED, 1, RUNS, 0));
    }

    private static void promise15And16() {
        RaceLocks x = Due.with("field f=3;open g;field h=7;lock k;lock l;thread a{lock l{g=5;r=h;f=r;}}thread b{lock k{}}");
        x.run();
        int[] first = {3, 0, 7};
        int at = where(x, RUNS, 4, RUNS, 1);
        int[] then = {7, 5, 7};
        for (int field = 0; field < 3; field++) {
            is("field " + field, x.field(0, field), first[field]);
            is("field " + field + " then", x.field(at, field), then[field]);
        }
        is("owner at first", x.owner(0, 0), NONE);
        is("owner at first", x.owner(0, 1), NONE);
        is("owner of k", x.owner(at, 0), 1);
        is("owner of l", x.owner(at, 1), 0);
        int states = x.run();
        for (int wrong : new int[] {-1, states, 4000, Integer.MAX_VALUE, Integer.MIN_VALUE}) {
            is("field of state " + wrong, x.field(wrong, 0), OUTSIDE);
            is("owner of state " + wrong, x.owner(wrong, 0), OUTSIDE);
        }
        for (int wrong : new int[] {-1, 3, 6, Integer.MAX_VALUE, Integer.MIN_VALUE}) {
            is("field " + wrong, x.field(0, wrong), OUTSIDE);
        }
        for (int wrong : new int[] {-1, 2, 4, Integer.MAX_VALUE, Integer.MIN_VALUE}) {
            is("owner " + wrong, x.owner(0, wrong), OUTSIDE);
        }
    }

    private static void promise17() {
        RaceLocks x = Due.with(CROSSED);
        int states = x.run();
        for (int state = -1; state <= states; state++) {
            is("stuck " + state, x.stuck(state), state == 4 ? 1 : OUTSIDE);
        }
        x = Due.with("lock k;thread a{lock k{wait k;}}");
        is("it waits for ever", x.stuck(where(x, WAITS, 1)), 2);
        x = Due.with("lock k;thread a{lock k{wait k;}}thread b{check 0>1;}thread c{join d;}thread d{}");
        is("all that are left wait", x.stuck(where(x, WAITS, 1, FAILED, 0, ENDED, 1, ENDED, 0)), 2);
        x = Due.with("lock k;thread a{lock k{wait k;}}thread b{join a;}");
        is("one waits, one joins", x.stuck(where(x, WAITS, 1, RUNS, 0)), 3);
        x = Due.with("thread a{join a;}");
        is("it joins itself", x.stuck(0 * x.run()), 3);
        x = Due.with("thread a{join b;start b;}thread b{stop;}");
        is("it joins one that is not started", x.stuck(0 * x.run()), 3);
        x = Due.with("lock k;lock l;thread a{lock l{lock k{wait k;}}}thread b{lock l{}}");
        is("about to take a lock of one that waits", x.stuck(where(x, WAITS, 2, RUNS, 0)), 3);
        x = Due.with("lock k;thread a{lock k{wait k;}}thread b{lock k{wake k;join a;}}");
        is("woken for ever", x.stuck(where(x, WOKEN, 1, RUNS, 2)), 3);
        x = Due.with("lock k;lock l;lock m;thread a{lock k{lock l{}}}thread b{lock l{lock m{}}}thread c{lock m{lock k{}}}");
        is("a ring of three", x.stuck(where(x, RUNS, 1, RUNS, 1, RUNS, 1)), 1);
        x = Due.with("lock k;lock l;lock m;thread c{lock k{wait k;}}thread a{lock l{lock m{}}}thread b{lock m{lock l{}}}thread d{lock m{}}");
        is("a ring beside others", x.stuck(where(x, WAITS, 1, RUNS, 1, RUNS, 1, RUNS, 0)), 1);
        x = Due.with("lock k;lock l;thread a{lock k{join b;}}thread b{lock k{}}");
        is("a ring, but through a join", x.stuck(where(x, RUNS, 1, RUNS, 0)), 3);
        for (int wrong : new int[] {-1, 4000, Integer.MAX_VALUE, Integer.MIN_VALUE}) {
            is("stuck " + wrong, x.stuck(wrong), OUTSIDE);
        }
    }

    private static int whole(String text) {
        RaceLocks x = Due.with(text);
        x.run();
        return x.whole(0);
    }

    private static void promise18() {
        RaceLocks x = Due.with("field f;field g;thread a{span{f=1;r=f;}g=r;span{}}thread b{f=2;span{f=3;}}");
        x.run();
        is("another one's write comes between", x.whole(0), 0);
        is("a span of nothing", x.whole(1), 1);
        is("a span of one step", x.whole(2), 1);
        is("the same again", x.whole(0), 0);
        is("whole(3)", x.whole(3), OUTSIDE);
        is("whole(-1)", x.whole(-1), OUTSIDE);
        is("what run found is still there", x.found(2), 4);
        is("counting in a span of a does not help", whole("field x;thread a{span{r=x;r=r+1;x=r;}}thread b{r=x;r=r+1;x=r;}"), 1);
        is("a lock makes it whole", whole("field f;field g;lock k;thread a{lock k{span{f=1;r=f;}}g=r;}thread b{lock k{f=2;}}"), 1);
        is("who cannot step lets others step", whole("field f;field g;lock k;thread a{span{f=1;lock k{}}}thread b{lock k{r=f;g=r;}}"), 1);
        is("steps before and behind are not in it", whole("field f;field g;thread a{f=1;span{f=2;}f=3;}thread b{r=f;g=r;}"), 1);
        is("a value between is not seen", whole("field f;field g;thread a{span{f=1;f=2;}}thread b{r=f;g=r;}"), 0);
        is("a loop for ever has no outcomes at all", whole("field f;thread a{span{while 0<1{f=1;f=2;}}}thread b{f=3;}"), 1);
        is("round a loop others step between", whole("field f;field g;thread a{p=0;while p<2{span{f=p;p=p+1;}}}thread b{r=f;g=r;f=0;}"), 1);
        is("round a loop in it they do not", whole("field f;field g;thread a{p=0;span{while p<3{p=p+1;f=p;}}}thread b{r=f;g=r;f=0;}"), 0);
        is("failing inside", whole("field f;thread a{span{f=1;r=f;check r==1;}}thread b{f=2;}"), 0);
        is("all stand for ever inside, or not", whole("lock k;lock l;thread a{span{lock k{lock l{}}}}thread b{lock l{lock k{}}}"), 1);
        // What was done last belongs to the state. Without the span at once: with z still 0 thread a has 5
        // states, in each of b's 21 later places 7. With it 8: at its check its last step was inside or not.
        String two = "field z;thread a{q=z;if q==0{span{q=0;}}else{q=0;}check 0<1;}thread b{z=1;" + "check 0<1;".repeat(20) + "}";
        x = Due.with(two + checks("c", 23));
        is("152 times 24 states", x.run(), 3648);
        is("173 times 24 with a span at once", x.whole(0), MANY);
        is("again", x.whole(0), MANY);
        is("the others are still there", x.found(3), 1);
        x = Due.with(two + checks("c", 22));
        is("152 times 23 states", x.run(), 3496);
        is("173 times 23 with a span at once", x.whole(0), 1);
        // Of one that is ENDED it is nothing: in each of b's 24 later places a has 6 states in both ways.
        x = Due.with("field z;thread a{q=z;if q==0{span{q=0;}}else{q=0;}}thread b{z=1;" + "check 0<1;".repeat(23) + "}"
                + checks("c", 24));
        is("148 times 25 states", x.run(), 3700);
        is("as many with a span at once", x.whole(0), 1);
        x = Due.with("thread a{span{stop;}}");
        is("before run", x.whole(0), STATE);
    }

    private static void promise19And20() {
        RaceLocks x = Due.with(COUNTING);
        pairs(x, false, new int[][] {{0, 0, 1, 2, 0}, {0, 2, 1, 0, 0}, {0, 2, 1, 2, 0}});
        x = Due.with("field f;open o;field g;lock k;lock l;thread a{lock k{f=1;lock l{g=1;}}o=1;}"
                + "thread b{lock l{f=2;r=g;}o=2;if 1<0{g=3;}}thread c{lock k{r=f;}stop;f=3;}");
        pairs(x, false, new int[][] {{0, 1, 1, 1, 0}, {0, 3, 1, 6, 2}, {1, 1, 2, 1, 0}});
        x = Due.with("field f;thread a{f=1;start b;f=2;join b;f=3;}thread b{f=4;}");
        pairs(x, false, new int[][] {{0, 2, 1, 0, 0}});
        x = Due.with("field f;thread a{r=f;}thread b{r=f;}");
        pairs(x, false, new int[][] {});
        // all pairs of 24 writes in each of four threads
        String write = "field f;";
        for (char name = 'a'; name <= 'd'; name++) {
            write += "thread " + name + "{" + "f=1;".repeat(24) + "}";
        }
        x = Due.with(write);
        is("as many as can be", x.doubts(), 6 * 24 * 24);
        is("the last one", x.doubt(6 * 24 * 24 - 1, 1), 23);
        is("its second thread", x.doubt(6 * 24 * 24 - 1, 2), 3);
        is("none behind it", x.doubt(6 * 24 * 24, 0), OUTSIDE);
    }

    private static void meets(RaceLocks x, int a, int step, int b, int other, int due) {
        is("meet " + a + " " + step + " " + b + " " + other, x.meet(a, step, b, other), due);
        is("meet " + b + " " + other + " " + a + " " + step, x.meet(b, other, a, step), due);
    }

    private static void promise21() {
        RaceLocks x = Due.with("thread m{r=1;start w;r=2;join w;r=3;}thread w{s=1;s=2;}");
        int[] due = {0, 0, 1, 1, 0};
        for (int step = 0; step < 5; step++) {
            meets(x, 0, step, 1, 0, due[step]);
            meets(x, 0, step, 1, 1, due[step]);
        }
        meets(x, 0, 0, 0, 1, OUTSIDE);
        meets(x, 0, 5, 1, 0, OUTSIDE);
        meets(x, 0, 0, 1, 2, OUTSIDE);
        meets(x, 0, -1, 1, 0, OUTSIDE);
        meets(x, 0, 0, 2, 0, OUTSIDE);
        meets(x, 0, 0, -1, 0, OUTSIDE);
        meets(x, 0, Integer.MAX_VALUE, 1, Integer.MIN_VALUE, OUTSIDE);
        x = Due.with("thread m{while 0<1{r=1;start w;}}thread w{s=1;}");
        meets(x, 0, 0, 1, 0, 1);
        meets(x, 0, 1, 1, 0, 1);
        meets(x, 0, 2, 1, 0, 1);
        x = Due.with("thread m{if 1<2{start w;r=1;}else{r=2;}r=3;}thread w{s=1;}");
        meets(x, 0, 2, 1, 0, 1);
        meets(x, 0, 3, 1, 0, 0);
        meets(x, 0, 4, 1, 0, 1);
        x = Due.with("thread m{r=1;start w;}thread n{r=1;start w;}thread w{s=1;}");
        meets(x, 0, 0, 2, 0, 1);
        meets(x, 1, 0, 2, 0, 1);
        x = Due.with("thread m{r=1;start w;}thread w{s=1;start w;}");
        meets(x, 0, 0, 1, 0, 1);
        x = Due.with("thread m{r=1;start v;}thread v{r=1;start w;}thread w{s=1;}");
        meets(x, 0, 0, 1, 0, 0);
        meets(x, 1, 0, 2, 0, 0);
        meets(x, 0, 0, 2, 0, 1);
        x = Due.with("thread m{start w;if 1<2{join w;}r=3;}thread w{s=1;}");
        meets(x, 0, 3, 1, 0, 1);
        x = Due.with("thread m{start w;if 1<2{join w;}else{join w;}r=3;}thread w{s=1;}");
        meets(x, 0, 4, 1, 0, 0);
        meets(x, 0, 3, 1, 0, 1);
        x = Due.with("thread m{join w;r=1;}thread w{s=1;}thread v{s=1;}");
        meets(x, 0, 0, 1, 0, 1);
        meets(x, 0, 1, 1, 0, 0);
        meets(x, 0, 1, 2, 0, 1);
        x = Due.with("thread m{stop;r=1;}thread w{if 0<1{stop;}else{stop;}s=1;}");
        meets(x, 0, 0, 1, 0, 1);
        meets(x, 0, 1, 1, 0, 0);
        meets(x, 0, 0, 1, 3, 0);
        x = Due.with("thread m{join w;}thread w{join m;s=1;}");
        meets(x, 0, 0, 1, 0, 1);
        meets(x, 0, 0, 1, 1, 0);
        x = Due.with("thread m{while 0<1{r=1;join w;}}thread w{s=1;}");
        meets(x, 0, 0, 1, 0, 1);
        meets(x, 0, 1, 1, 0, 1);
    }

    private static void promise22() {
        RaceLocks x = Due.with("field f;open g;field h;field i;field j;lock k;lock l;lock m;"
                + "thread a{lock l{f=1;lock m{g=1;h=1;}}i=1;}thread b{lock m{lock k{r=g;lock l{s=f;h=r;}}}stop;i=2;}");
        int[] due = {2, 4, 6, 0, 7};
        for (int field = 0; field < 5; field++) {
            is("guards " + field, x.guards(field), due[field]);
        }
        for (int wrong : new int[] {-1, 5, 6, Integer.MAX_VALUE, Integer.MIN_VALUE}) {
            is("guards " + wrong, x.guards(wrong), OUTSIDE);
        }
        is("no locks at all", Due.with("field f;").guards(0), 0);
        is("all four locks", Due.with("field f;lock k;lock l;lock m;lock n;").guards(0), 15);
        // what can never be come to counts, too
        is("guards", Due.with("field f;lock k;thread a{lock k{f=1;}stop;f=2;}").guards(0), 0);
    }

    private static int rings(String threads) {
        return Due.with("lock g;lock l;lock m;lock n;" + threads).rings();
    }

    private static void promise23() {
        is("crossed", Due.with(CROSSED).rings(), 1);
        is("one order", rings("thread a{lock l{lock m{}}}thread b{lock l{lock m{}}}"), 0);
        is("under one lock", rings("thread a{lock g{lock l{lock m{}}}}thread b{lock g{lock m{lock l{}}}}"), 0);
        is("under one lock, but not both", rings("thread a{lock g{lock l{lock m{}}}}thread b{lock m{lock l{}}}"), 1);
        is("twice", rings("thread a{lock l{lock m{}lock m{}}}thread b{lock m{lock l{}}}"), 2);
        is("again and again", rings("thread a{lock l{lock m{lock m{}}}}thread b{lock m{lock l{}}}"), 1);
        is("the same lock", rings("thread a{lock l{lock l{}}}thread b{lock l{lock l{}}}"), 0);
        is("in one thread", rings("thread a{lock l{lock m{}}lock m{lock l{}}}"), 0);
        is("one against two", rings("thread a{lock l{lock m{}}}thread b{lock m{lock l{}}}thread c{lock m{lock l{}}}"), 2);
        is("three", rings("thread a{lock l{lock m{}}}thread b{lock m{lock n{}}}thread c{lock n{lock l{}}}"), 1);
        is("three the other way", rings("thread a{lock m{lock l{}}}thread b{lock n{lock m{}}}thread c{lock l{lock n{}}}"), 1);
        is("four", rings("thread a{lock g{lock l{}}}thread b{lock l{lock m{}}}thread c{lock m{lock n{}}}thread d{lock n{lock g{}}}"), 1);
        is("four in another order", rings("thread a{lock g{lock l{}}}thread b{lock m{lock n{}}}thread c{lock l{lock m{}}}thread d{lock n{lock g{}}}"), 1);
        is("four, and two", rings("thread a{lock g{lock l{}}}thread b{lock l{lock m{}lock g{}}}thread c{lock m{lock n{}}}thread d{lock n{lock g{}}}"), 2);
        is("a lock held at two of three", rings("thread a{lock g{lock l{lock m{}}}}thread b{lock g{lock m{lock n{}}}}thread c{lock n{lock l{}}}"), 0);
        is("they do not meet", rings("thread a{lock l{lock m{}}start b;}thread b{lock m{lock l{}}}"), 0);
        is("two of three do not meet", rings("thread a{lock l{lock m{}}}thread b{lock m{lock n{}}start c;}thread c{lock n{lock l{}}}"), 0);
        is("joined before", rings("thread a{join b;lock l{lock m{}}}thread b{lock m{lock l{}}}"), 0);
        is("none", Due.with("").rings(), 0);
    }
}
