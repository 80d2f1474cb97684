import java.nio.charset.StandardCharsets;
import java.util.ArrayList;
import java.util.List;

/** Compares the class with the Model, on texts made by chance, sound ones and spoilt ones. */
public final class ModelTest {
    private static int sound = 0;
    private static int many = 0;
    private static int stucks = 0;
    private static int races = 0;
    private static int rings = 0;
    private static int notWhole = 0;
    private static final int[] faults = new int[6];

    /** Texts with more outcomes, races, rings than chance would make. */
    private static final String[] CHOSEN = {
        "field x;field a;field b;field c;field d;thread p{x=1;x=2;x=3;x=4;x=5;x=6;x=7;}"
            + "thread q{r=x;a=r;r=x;b=r;r=x;c=r;r=x;d=r;}",
        "field x;field y;field a;field b;field c;thread p{x=1;x=2;x=3;x=4;}thread o{y=1;y=2;y=3;}"
            + "thread q{r=x;a=r;r=y;b=r;r=x;c=r;}",
        "field x;thread a{" + "x=1;".repeat(24) + "}thread b{" + "x=2;".repeat(24) + "}",
        "lock k;lock l;lock m;lock n;thread a{lock k{lock l{}lock m{}lock n{}lock l{}}}"
            + "thread b{lock l{lock k{}lock m{}lock n{}lock k{}}}thread c{lock m{lock k{}lock l{}lock n{}lock k{}}}"
            + "thread d{lock n{lock k{}lock l{}lock m{}lock l{}}}",
    };

    public static void main(String[] args) {
        int howMany = args.length > 0 ? Integer.parseInt(args[0]) : 6000;
        long from = args.length > 1 ? Long.parseLong(args[1]) : 1;
        RaceLocks used = new RaceLocks();
        for (String text : CHOSEN) {
            compare(used, text);
        }
        for (long seed = from; seed < from + howMany && Due.wrongs() == 0; seed++) {
            Texts texts = new Texts(seed);
            String text = texts.program();
            RaceLocks x = seed % 3 == 0 ? new RaceLocks() : used;
            compare(x, text);
            for (int i = 0; i < 6; i++) {
                compareReading(x, texts.spoilt(text));
            }
        }
        System.out.println("sound " + sound + ", many " + many + ", stuck states " + stucks + ", races " + races
                + ", rings " + rings + ", not whole " + notWhole + ", faults " + java.util.Arrays.toString(faults));
        Due.close("ModelTest");
    }

    /** Reads with both; the model, or null if there is a fault. */
    private static Model compareReading(RaceLocks x, String text) {
        byte[] bytes = text.getBytes(StandardCharsets.ISO_8859_1);
        if (bytes.length > 1500) {
            return null;
        }
        int place = 0;
        int kind = 0;
        Model model = null;
        try {
            model = new Model(bytes);
        } catch (Model.Fault fault) {
            kind = fault.kind;
            place = fault.place;
        }
        faults[kind]++;
        int answer = Due.read(x, bytes);
        Due.is("read of " + text, answer, model == null ? -1000 - place : model.total());
        Due.is("fault of " + text, x.fault(), kind);
        return model;
    }

    private static void compare(RaceLocks x, String text) {
        Model m = compareReading(x, text);
        if (m == null) {
            Due.is("count", x.count(0), RaceLocks.STATE);
            Due.is("run", x.run(), RaceLocks.STATE);
            Due.is("rings", x.rings(), RaceLocks.STATE);
            return;
        }
        sound++;
        compareText(x, m, text);
        compareJudging(x, m, text);
        List<Model.Now> all = m.all(-1);
        Due.is("found before run", x.found(0), RaceLocks.STATE);
        Due.is("run of " + text, x.run(), all == null ? RaceLocks.MANY : all.size());
        if (all == null) {
            many++;
            Due.is("found", x.found(0), RaceLocks.STATE);
            Due.is("whole", x.whole(0), RaceLocks.STATE);
            return;
        }
        compareFindings(x, m, all, text);
        compareStates(x, m, all, text);
        compareWhole(x, m, all, text);
    }

    private static void compareText(RaceLocks x, Model m, String text) {
        Due.is("count 0 of " + text, x.count(0), m.fields.size());
        Due.is("count 1 of " + text, x.count(1), m.locks.size());
        Due.is("count 2 of " + text, x.count(2), m.threads.size());
        Due.is("count 3 of " + text, x.count(3), m.spans);
        Due.is("count 4 of " + text, x.count(4), m.total());
        for (int t = 0; t < m.threads.size(); t++) {
            for (int s = 0; s < m.steps.get(t).size(); s++) {
                Model.Step step = m.steps.get(t).get(s);
                int[] due = {step.kind, step.subject, step.next, step.other, Model.bits(step.held), step.span};
                for (int what = 0; what < 6; what++) {
                    Due.is("step " + t + " " + s + " " + what + " of " + text, x.step(t, s, what), due[what]);
                }
            }
            Due.is("step behind all", x.step(t, m.steps.get(t).size(), 0), RaceLocks.OUTSIDE);
        }
    }

    private static void comparePairs(String name, List<int[]> due, int size, RaceLocks x, Model m, boolean race) {
        Due.is(name, size, due.size());
        for (int k = 0; k < due.size(); k++) {
            int[] pair = due.get(k);
            for (int what = 0; what < 5; what++) {
                int want = what < 4 ? pair[what] : m.steps.get(pair[0]).get(pair[1]).subject;
                Due.is(name + " " + k + " " + what, race ? x.race(k, what) : x.doubt(k, what), want);
            }
        }
    }

    private static void compareJudging(RaceLocks x, Model m, String text) {
        comparePairs("doubts of " + text, m.doubts(), x.doubts(), x, m, false);
        int size = m.threads.size();
        for (int a = 0; a < size; a++) {
            for (int b = 0; b < size; b++) {
                for (int s = 0; s < m.steps.get(a).size(); s++) {
                    for (int o = 0; o < m.steps.get(b).size(); o++) {
                        int due = a == b ? RaceLocks.OUTSIDE : m.meet(a, s, b, o) ? 1 : 0;
                        Due.is("meet " + a + " " + s + " " + b + " " + o + " of " + text, x.meet(a, s, b, o), due);
                    }
                }
            }
        }
        for (int f = 0; f < m.fields.size(); f++) {
            Due.is("guards " + f + " of " + text, x.guards(f), m.guards(f));
        }
        int due = m.rings();
        rings += due;
        Due.is("rings of " + text, x.rings(), due);
    }

    private static void compareFindings(RaceLocks x, Model m, List<Model.Now> all, String text) {
        List<int[]> racing = m.races(all);
        races += racing.size();
        comparePairs("races of " + text, racing, x.found(2), x, m, true);
        List<Integer> raceStates = new ArrayList<>();
        for (int[] race : racing) {
            raceStates.add(race[4]);
        }
        List<Integer> ends = new ArrayList<>();
        List<Integer> stuck = new ArrayList<>();
        List<Integer> failed = new ArrayList<>();
        for (Model.Now n : all) {
            if (n.last) {
                (Model.isEnd(n) ? ends : stuck).add(n.number);
            }
            for (int how : n.how) {
                if (how == 5) {
                    failed.add(n.number);
                    break;
                }
            }
            boolean none = !n.last || Model.isEnd(n);
            Due.is("stuck " + n.number + " of " + text, x.stuck(n.number), none ? RaceLocks.OUTSIDE : m.stuckKind(n));
        }
        stucks += stuck.size();
        List<Integer> outcomes = new ArrayList<>(Model.outcomes(all).values());
        compareShown(x, all, 0, 2, raceStates, text);
        compareShown(x, all, 1, 1, stuck, text);
        compareShown(x, all, 2, 0, ends, text);
        compareShown(x, all, 3, 3, outcomes, text);
        compareShown(x, all, 4, 4, failed, text);
    }

    private static void compareShown(RaceLocks x, List<Model.Now> all, int kind, int what, List<Integer> due, String text) {
        Due.is("found " + what + " of " + text, x.found(what), due.size());
        for (int k = 0; k < due.size(); k++) {
            Due.is("show " + kind + " " + k + " of " + text, x.show(kind, k), due.get(k));
            if (k > 20) {
                continue;
            }
            List<Integer> way = Model.schedule(all.get(due.get(k)));
            Due.is("length of " + kind + " " + k + " of " + text, x.length(), way.size());
            for (int i = 0; i < way.size(); i++) {
                Due.is("who " + i + " of " + kind + " " + k + " of " + text, x.who(i), way.get(i));
            }
            Due.is("who behind all", x.who(way.size()), RaceLocks.OUTSIDE);
        }
        Due.is("show behind all", x.show(kind, due.size()), RaceLocks.OUTSIDE);
    }

    private static void compareStates(RaceLocks x, Model m, List<Model.Now> all, String text) {
        for (Model.Now n : all) {
            for (int t = 0; t < m.threads.size(); t++) {
                int[] due = {n.how[t], n.step[t], m.can(n, t) ? 1 : 0, n.local[t][0], n.local[t][1], n.local[t][2]};
                for (int what = 0; what < 6; what++) {
                    Due.is("thread " + n.number + " " + t + " " + what + " of " + text, x.thread(n.number, t, what), due[what]);
                }
            }
            for (int f = 0; f < m.fields.size(); f++) {
                Due.is("field " + n.number + " " + f + " of " + text, x.field(n.number, f), n.value[f]);
            }
            for (int l = 0; l < m.locks.size(); l++) {
                Due.is("owner " + n.number + " " + l + " of " + text, x.owner(n.number, l), n.owner[l]);
            }
        }
    }

    private static void compareWhole(RaceLocks x, Model m, List<Model.Now> all, String text) {
        for (int span = 0; span < m.spans; span++) {
            List<Model.Now> atOnce = m.all(span);
            boolean same = atOnce != null && Model.outcomes(atOnce).keySet().equals(Model.outcomes(all).keySet());
            notWhole += same ? 0 : 1;
            int due = atOnce == null ? RaceLocks.MANY : same ? 1 : 0;
            Due.is("whole " + span + " of " + text, x.whole(span), due);
        }
        Due.is("whole behind all", x.whole(m.spans), RaceLocks.OUTSIDE);
    }
}
