import java.util.ArrayList;
import java.util.Arrays;
import java.util.List;

/**
 * Each call that is refused, in each state of the object in which it is: what it answers, and that it leaves
 * all as it was. Two objects are brought into the same state, one of them is asked what is refused, and then
 * all that can be asked is asked of both.
 */
public final class RefusalsTest {
    private static final int STATE = RaceLocks.STATE;
    private static final int OUTSIDE = RaceLocks.OUTSIDE;
    private static final int[] NUMBERS = {Integer.MIN_VALUE, -1, 0, 1, 7, 24, 4000, Integer.MAX_VALUE};
    private static final int[] FAR = {Integer.MIN_VALUE, -1, Integer.MAX_VALUE};

    /** Three fields, two locks, three threads (3, 6 and 1 steps), two spans; there is one at least of all that can be found. */
    private static final String TEXT = "field f;open g=3;field h;lock k;lock l;thread a{span{f=1;r=f;}g=r;}"
            + "thread b{lock k{r=f;if r==1{wait k;}}span{stop;}}thread c{check 1<1;}";

    private static final String[] SITUATIONS = {"new", "taped", "full", "fault", "read", "run", "shown", "many", "empty"};

    public static void main(String[] args) {
        for (String situation : SITUATIONS) {
            refused(situation);
        }
        stateComesFirst();
        lastOf512();
        Due.close("RefusalsTest");
    }

    private static void is(String what, long got, long want) {
        Due.is(what, got, want);
    }

    private static RaceLocks in(String situation) {
        RaceLocks x = new RaceLocks();
        switch (situation) {
            case "new" -> { }
            case "taped" -> Due.feed(x, Due.bytes("thread z{stop;r"));
            case "full" -> Due.feed(x, Due.bytes("thread z{stop;}" + " ".repeat(1485)));
            case "fault" -> {
                Due.read(x, TEXT);
                x.run();
                x.show(2, 0);
                Due.read(x, "field f;thread a{f=1;r=2;r");
            }
            case "read" -> Due.read(x, TEXT);
            case "run" -> {
                Due.read(x, TEXT);
                x.run();
            }
            case "shown" -> {
                Due.read(x, TEXT);
                x.run();
                x.show(2, 0);
                Due.feed(x, Due.bytes("thread z{"));
            }
            case "many" -> {
                Due.read(x, "thread a{" + "r=1;".repeat(24) + "}thread b{" + "r=1;".repeat(24) + "}thread c{" + "r=1;".repeat(24) + "}");
                x.run();
            }
            default -> {
                x.read();
                x.run();
            }
        }
        return x;
    }

    /** All that can be asked, the calls that change something last. */
    private static List<Integer> all(RaceLocks x) {
        List<Integer> answers = new ArrayList<>();
        answers.add(x.fault());
        answers.add(x.length());
        for (int i = 0; i < 6; i++) {
            answers.add(x.who(i));
            answers.add(x.count(i));
            answers.add(x.found(i));
            answers.add(x.race(0, i));
            answers.add(x.doubt(0, i));
            answers.add(x.whole(i));
            answers.add(x.guards(i));
            answers.add(x.stuck(i));
        }
        for (int thread = 0; thread < 3; thread++) {
            for (int step = 0; step < 6; step++) {
                answers.add(x.step(thread, step, 0));
                answers.add(x.step(thread, step, 2));
                answers.add(x.step(thread, step, 4));
                answers.add(x.meet(thread, step, (thread + 1) % 3, 0));
            }
            for (int state = 0; state < 6; state++) {
                answers.add(x.thread(state, thread, 0));
                answers.add(x.thread(state, thread, 1));
                answers.add(x.thread(state, thread, 3));
                answers.add(x.field(state, thread));
                answers.add(x.owner(state, thread));
            }
        }
        answers.add(x.doubts());
        answers.add(x.rings());
        for (int kind = 0; kind < 5; kind++) {
            answers.add(x.show(kind, 0));
            answers.add(x.length());
            answers.add(x.who(1));
        }
        answers.add(x.run());
        answers.add(x.length());
        answers.add(Due.feedThrows(x, 0x20202020, 0x3f202020, 0, 0, 0) ? 1 : 0);
        answers.add(x.read());
        answers.add(x.fault());
        answers.add(x.count(4));
        answers.add(x.run());
        return answers;
    }

    /** One call by its name; 1 and 0 of feed and end: whether they throw. */
    private static int ask(RaceLocks x, String call, int... n) {
        switch (call) {
            case "feed": return Due.feedThrows(x, n) ? 1 : 0;
            case "end": return Due.endThrows(x, n[0]) ? 1 : 0;
            case "count": return x.count(n[0]);
            case "step": return x.step(n[0], n[1], n[2]);
            case "run": return x.run();
            case "found": return x.found(n[0]);
            case "show": return x.show(n[0], n[1]);
            case "length": return x.length();
            case "who": return x.who(n[0]);
            case "race": return x.race(n[0], n[1]);
            case "thread": return x.thread(n[0], n[1], n[2]);
            case "field": return x.field(n[0], n[1]);
            case "owner": return x.owner(n[0], n[1]);
            case "stuck": return x.stuck(n[0]);
            case "whole": return x.whole(n[0]);
            case "doubts": return x.doubts();
            case "doubt": return x.doubt(n[0], n[1]);
            case "meet": return x.meet(n[0], n[1], n[2], n[3]);
            case "guards": return x.guards(n[0]);
            default: return x.rings();
        }
    }

    private static List<Integer> due;
    private static String place;

    private static void refusal(int answer, String call, int... n) {
        RaceLocks x = in(place);
        String what = place + ": " + call + Arrays.toString(n);
        is(what, ask(x, call, n), answer);
        is(what + " again", ask(x, call, n), answer);
        is(what + " leaves all as it was", all(x).equals(due) ? 1 : 0, 1);
    }

    private static void refused(String situation) {
        place = situation;
        due = all(in(situation));
        boolean program = !List.of("new", "taped", "full", "fault").contains(situation);
        boolean tried = List.of("run", "shown", "empty").contains(situation);
        tape(situation);
        if (!program) {
            for (int n : NUMBERS) {
                text(STATE, n);
            }
            for (String call : new String[] {"run", "doubts", "rings"}) {
                refusal(STATE, call);
            }
        } else {
            for (int n : FAR) {
                text(OUTSIDE, n);
            }
        }
        if (!tried) {
            for (int n : NUMBERS) {
                trying(STATE, n);
            }
        } else {
            for (int n : FAR) {
                trying(OUTSIDE, n);
            }
        }
        if (!situation.equals("shown")) {
            refusal(STATE, "length");
            for (int n : NUMBERS) {
                refusal(STATE, "who", n);
            }
        }
        if (situation.equals("run") || situation.equals("shown")) {
            oneTooFar();
        }
    }

    private static void tape(String situation) {
        int has = situation.equals("taped") ? 15 : situation.equals("full") ? 1500 : situation.equals("shown") ? 9 : 0;
        for (int wrong : new int[] {Integer.MIN_VALUE, -1, has + 1, 1501, Integer.MAX_VALUE}) {
            refusal(1, "end", wrong);
        }
        if (has == 1500) {
            refusal(1, "feed", 0x3f3f3f3f, 0, -1, Integer.MIN_VALUE, 0x20202020);
        }
    }

    /** The calls that need a program, with a number that is wrong in each place. */
    private static void text(int answer, int n) {
        refusal(answer, "count", n);
        refusal(answer, "step", n, 0, 0);
        refusal(answer, "step", 0, n, 0);
        refusal(answer, "step", 0, 0, n);
        refusal(answer, "doubt", n, 0);
        refusal(answer, "doubt", 0, n);
        refusal(answer, "meet", n, 0, 1, 0);
        refusal(answer, "meet", 0, n, 1, 0);
        refusal(answer, "meet", 0, 0, n, 0);
        refusal(answer, "meet", 0, 0, 1, n);
        refusal(answer, "guards", n);
    }

    /** The calls that need run(), with a number that is wrong in each place. */
    private static void trying(int answer, int n) {
        refusal(answer, "found", n);
        refusal(answer, "show", n, 0);
        refusal(answer, "show", 0, n);
        refusal(answer, "show", 4, n);
        refusal(answer, "race", n, 0);
        refusal(answer, "race", 0, n);
        refusal(answer, "thread", n, 0, 0);
        refusal(answer, "thread", 0, n, 0);
        refusal(answer, "thread", 0, 0, n);
        refusal(answer, "field", n, 0);
        refusal(answer, "field", 0, n);
        refusal(answer, "owner", n, 0);
        refusal(answer, "owner", 0, n);
        refusal(answer, "stuck", n);
        refusal(answer, "whole", n);
        if (answer == OUTSIDE && place.equals("shown")) {
            refusal(OUTSIDE, "who", n);
        }
    }

    /** Numbers that are one too far, and the greatest ones that are not. */
    private static void oneTooFar() {
        RaceLocks x = in("run");
        int states = x.run();
        refusal(OUTSIDE, "count", 5);
        refusal(OUTSIDE, "step", 3, 0, 0);
        refusal(OUTSIDE, "step", 0, 3, 0);
        refusal(OUTSIDE, "step", 1, 6, 0);
        refusal(OUTSIDE, "step", 2, 1, 0);
        refusal(OUTSIDE, "step", 0, 0, 6);
        refusal(OUTSIDE, "meet", 0, 0, 0, 1);
        refusal(OUTSIDE, "meet", 0, 3, 1, 0);
        refusal(OUTSIDE, "meet", 0, 0, 3, 0);
        refusal(OUTSIDE, "guards", 3);
        refusal(OUTSIDE, "doubt", x.doubts(), 0);
        refusal(OUTSIDE, "doubt", 0, 5);
        refusal(OUTSIDE, "found", 5);
        refusal(OUTSIDE, "show", 5, 0);
        int[] kinds = {2, 1, 0, 3, 4};
        for (int kind = 0; kind < 5; kind++) {
            int size = x.found(kinds[kind]);
            is("there is one of kind " + kind, size > 0 ? 1 : 0, 1);
            is("the last one of kind " + kind, x.show(kind, size - 1) >= 0 ? 1 : 0, 1);
            refusal(OUTSIDE, "show", kind, size);
        }
        refusal(OUTSIDE, "race", x.found(2), 0);
        refusal(OUTSIDE, "race", 0, 5);
        refusal(OUTSIDE, "thread", states, 0, 0);
        refusal(OUTSIDE, "thread", 0, 3, 0);
        refusal(OUTSIDE, "thread", 0, 0, 6);
        refusal(OUTSIDE, "field", states, 0);
        refusal(OUTSIDE, "field", 0, 3);
        refusal(OUTSIDE, "owner", states, 0);
        refusal(OUTSIDE, "owner", 0, 2);
        refusal(OUTSIDE, "stuck", states);
        refusal(OUTSIDE, "stuck", 0);
        refusal(OUTSIDE, "stuck", x.show(2, 0));
        refusal(OUTSIDE, "whole", 2);
        int[] greatest = {x.count(4), x.step(2, 0, 5), x.found(4), x.race(0, 4), x.thread(states - 1, 2, 5), x.field(states - 1, 2),
            x.owner(states - 1, 1), x.whole(1), x.guards(2), x.doubt(0, 4), x.meet(0, 2, 2, 0)};
        for (int answer : greatest) {
            is("the greatest numbers are not refused", answer > STATE ? 1 : 0, 1);
        }
    }

    /** "of several the first one here: STATE .., OUTSIDE": numbers that name nothing where there is nothing, either. */
    private static void stateComesFirst() {
        for (String situation : new String[] {"new", "fault", "read", "many"}) {
            RaceLocks x = in(situation);
            for (int n : FAR) {
                int noProgram = situation.equals("read") || situation.equals("many") ? OUTSIDE : STATE;
                is("count", x.count(n), noProgram);
                is("step", x.step(n, n, n), noProgram);
                is("doubt", x.doubt(n, n), noProgram);
                is("meet", x.meet(n, n, n, n), noProgram);
                is("guards", x.guards(n), noProgram);
                is("found", x.found(n), STATE);
                is("show", x.show(n, n), STATE);
                is("who", x.who(n), STATE);
                is("race", x.race(n, n), STATE);
                is("thread", x.thread(n, n, n), STATE);
                is("field", x.field(n, n), STATE);
                is("owner", x.owner(n, n), STATE);
                is("stuck", x.stuck(n), STATE);
                is("whole", x.whole(n), STATE);
            }
        }
    }

    /** "An object is used for at most 512 calls after it has been made": the last one is as good as the first. */
    private static void lastOf512() {
        RaceLocks x = new RaceLocks();
        int calls = 0;
        while (calls < 500) {
            x.feed(0x66696c64, 0, 0, 0, 0);
            x.end(2);
            x.read();
            x.fault();
            calls += 4;
        }
        // "thre" "ad t" "{r=1" ";}  " "    "
        is("feed", x.feed(0x74687265, 0x61642074, 0x7b723d31, 0x3b7d2020, 0x20202020), 20);
        is("read", x.read(), 1);
        is("run", x.run(), 2);
        is("show", x.show(2, 0), 1);
        is("length", x.length(), 1);
        is("who", x.who(0), 0);
        is("thread", x.thread(1, 0, 3), 1);
        is("doubts", x.doubts(), 0);
        is("rings", x.rings(), 0);
        is("found", x.found(0), 1);
        is("fault", x.fault(), 0);
        is("the 512th", x.thread(1, 0, 0), 4);
    }
}
