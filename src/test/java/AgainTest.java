import java.util.ArrayList;
import java.util.List;

/**
 * "The program before is there no more": one object reads a text, is asked all that can be asked, and reads
 * another text. What it answers then is what a new object answers of that text alone, whatever the text before
 * was: one that fills all places, one that has nothing, one that broke off in the middle.
 */
public final class AgainTest {
    private static final int STATE = RaceLocks.STATE;

    private static final String[] TEXTS = {
        // nothing at all
        "",
        "thread a{}",
        // all places full: fields, locks, threads, locals, spans, steps
        "field a=7;open b=7;field c=7;open d=7;field e=7;open f=7;lock g;lock h;lock i;lock j;thread k{start l;start m;start n;"
            + "p=7;q=7;r=7;a=p;f=r;}thread l{span{}span{}span{}}thread m{span{}span{}span{check 1<1;}}thread n{" + "p=a;".repeat(24) + "}",
        "field x;thread a{" + "x=1;".repeat(24) + "}thread b{" + "x=1;".repeat(24) + "}thread c{" + "x=1;".repeat(24) + "}",
        "lock k;thread a{" + "lock k{".repeat(7) + "wait k;" + "}".repeat(7) + "}thread b{lock k{wake all k;}}",
        // the same names for other things, and a step's place for one of another kind
        "field x;field y;thread a{r=x;y=r;}thread b{x=1;x=2;}",
        "open x;open y;thread a{r=x;y=r;}thread b{x=1;x=2;}",
        "lock x;lock y;thread a{lock x{lock y{}}}thread b{lock y{lock x{}}}",
        "thread x{p=1;q=2;r=3;}thread y{r=1;start z;}thread z{join y;check 1<1;}",
        "field z;lock k;thread a{span{z=1;z=2;}}thread b{lock k{q=1;r=z;}check r!=1;if r==2{lock k{}}}thread c{start d;}thread d{stop;r=z;}",
        // each sort of finding: many outcomes, races, doubts, states that are stuck, that are failed
        "open x;field a;field b;field c;thread p{x=1;x=2;x=3;x=4;}thread q{r=x;a=r;r=x;b=r;r=x;c=r;}",
        "field x;lock k;thread a{lock k{x=1;}x=2;}thread b{lock k{r=x;wait k;}}thread c{r=x;check r<2;}",
        "thread a{if 1<2{if 1<2{}}else{r=1;}while 1<2{stop;}}thread b{join b;}thread c{check 1<1;}",
        // broken off: in a lock, a span, a loop, the other side of an if, as deep as can be, with all locals
        "lock k;lock l;thread a{lock k{r=1;lock l{r=2;",
        "thread a{span{r=1;",
        "thread a{span{r=1;}}thread b{while 1<2{r=1;span{if 1<2{}else{r=2;",
        "thread a{" + "if 1<2{".repeat(7),
        "field f=5;open g=5;lock k;thread a{p=q+r;lock k{f=p;}}thread b{p=q+r;@",
        // the other kinds of faults
        "?",
        "field a=3;field a;",
        "field f=3;open g=3;lock k;thread a{span{" + "f=1;".repeat(25),
        "lock k;lock l;thread a{start b;lock k{lock l{}}}thread b{lock l{lock k{start c;}}}",
    };

    public static void main(String[] args) {
        List<List<Integer>> fresh = new ArrayList<>();
        for (String text : TEXTS) {
            RaceLocks x = new RaceLocks();
            Due.read(x, text);
            fresh.add(all(x));
        }
        for (String before : TEXTS) {
            for (int i = 0; i < TEXTS.length; i++) {
                again(before, TEXTS[i], fresh.get(i));
            }
        }
        oftenIn512Calls();
        Due.close("AgainTest");
    }

    /** As many programs with many states, outcomes, races and doubts as 512 calls can try: the last one as the first one. */
    private static void oftenIn512Calls() {
        String text = "field x;field a;field b;field c;field d;thread p{x=1;x=2;x=3;x=4;x=5;x=6;x=7;}"
                + "thread q{r=x;a=r;r=x;b=r;r=x;c=r;r=x;d=r;}";
        RaceLocks x = new RaceLocks();
        int callsEach = (text.length() + 19) / 20 + 6;
        for (int calls = 0; calls + callsEach <= 512; calls += callsEach) {
            Due.is("read", Due.read(x, text), 15);
            // of k values read and the one there now, none less than the one before: 8, then twice 36, 120, 330, 792
            Due.is("run", x.run(), 2564);
            Due.is("outcomes", x.found(3), 330);
            Due.is("races", x.found(2), 28);
            Due.is("doubts", x.doubts(), 28);
        }
    }

    private static void again(String before, String text, List<Integer> due) {
        RaceLocks x = new RaceLocks();
        Due.read(x, before);
        all(x);
        Due.read(x, text);
        List<Integer> answers = all(x);
        Due.is("as many answers of " + text + " after " + before, answers.size(), due.size());
        for (int i = 0; i < Math.min(answers.size(), due.size()); i++) {
            Due.is("answer " + i + " of " + text + " after " + before, answers.get(i), due.get(i));
        }
        // a text that is read, but asked nothing, leaves nothing, either
        Due.read(x, before);
        Due.read(x, text);
        Due.is("all answers of " + text + " after " + before + ", not asked", all(x).equals(due));
    }

    /** All that can be asked of what was read last; what needs run() is asked before it, too. */
    private static List<Integer> all(RaceLocks x) {
        List<Integer> answers = new ArrayList<>();
        answers.add(x.fault());
        Due.is("nothing is found before run()", x.found(0), STATE);
        Due.is("no state is there", x.thread(0, 0, 0), STATE);
        Due.is("nothing is told", x.length(), STATE);
        text(x, answers);
        judged(x, answers);
        int states = x.run();
        answers.add(states);
        Due.is("nothing is told by run()", x.length(), STATE);
        found(x, answers);
        states(x, Math.min(states, 200), answers);
        return answers;
    }

    private static void text(RaceLocks x, List<Integer> answers) {
        for (int what = 0; what < 5; what++) {
            answers.add(x.count(what));
        }
        for (int thread = 0; thread < 4; thread++) {
            for (int step = 0; step < 24; step++) {
                for (int what = 0; what < 6; what++) {
                    answers.add(x.step(thread, step, what));
                }
            }
        }
    }

    private static void judged(RaceLocks x, List<Integer> answers) {
        answers.add(x.doubt(0, 1));
        answers.add(x.doubts());
        answers.add(x.doubt(x.doubts() - 1, 3));
        answers.add(x.doubt(x.doubts(), 3));
        answers.add(x.rings());
        for (int i = 0; i < 6; i++) {
            answers.add(x.guards(i));
            answers.add(x.meet(0, i, 1, 0));
            answers.add(x.meet(0, 0, 2, i));
            answers.add(x.meet(3, i, 1, i));
        }
    }

    private static void found(RaceLocks x, List<Integer> answers) {
        int[] kinds = {2, 1, 0, 3, 4};
        for (int what = 0; what < 5; what++) {
            int size = x.found(kinds[what]);
            answers.add(size);
            for (int k = 0; k <= size; k++) {
                answers.add(x.show(what, k));
                answers.add(x.length());
                answers.add(x.who(x.length() - 1));
            }
        }
        for (int k = 0; k < x.found(2); k++) {
            for (int what = 0; what < 5; what++) {
                answers.add(x.race(k, what));
            }
        }
        for (int span = 0; span < 6; span++) {
            answers.add(x.whole(span));
        }
    }

    private static void states(RaceLocks x, int states, List<Integer> answers) {
        for (int state = 0; state < states; state++) {
            for (int i = 0; i < 6; i++) {
                answers.add(x.field(state, i));
                answers.add(x.owner(state, i));
                answers.add(x.thread(state, i, 0));
                answers.add(x.thread(state, i, 1));
                answers.add(x.thread(state, i, 2));
                answers.add(x.thread(state, i, 4));
            }
            answers.add(x.stuck(state));
        }
    }
}
