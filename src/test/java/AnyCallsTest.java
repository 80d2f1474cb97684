import java.util.Random;

/** Calls by chance, with any numbers in any state: nothing is thrown but what the document names. */
public final class AnyCallsTest {
    private static final int[] EDGES = {Integer.MIN_VALUE, -4001, -1, 0, 1, 2, 3, 4, 5, 6, 7, 23, 24, 25, 96, 1499, 1500,
        1501, 3999, 4000, 4001, Integer.MAX_VALUE};

    public static void main(String[] args) {
        for (int seed = 0; seed < 400; seed++) {
            Random chance = new Random(seed);
            RaceLocks x = new RaceLocks();
            String calls = "";
            try {
                for (int i = 0; i < 512; i++) {
                    int call = chance.nextInt(26);
                    calls = seed + ", call " + i + " of sort " + call;
                    any(x, call, chance);
                }
            } catch (RuntimeException e) {
                Due.is(calls + " threw " + e + "; exceptions", 1, 0);
            }
            Due.is("object " + seed, 0, 0);
        }
        Due.close("AnyCallsTest");
    }

    private static int number(Random chance) {
        return chance.nextInt(5) == 0 ? EDGES[chance.nextInt(EDGES.length)] : chance.nextInt(chance.nextInt(40) + 1);
    }

    private static void any(RaceLocks x, int call, Random chance) {
        int a = number(chance);
        int b = number(chance);
        int c = number(chance);
        int d = number(chance);
        switch (call) {
            case 0 -> {
                try {
                    x.feed(a, b, c, d, chance.nextInt());
                } catch (IllegalStateException e) {
                    x.read();
                }
            }
            case 1 -> {
                try {
                    x.end(a);
                } catch (IllegalArgumentException e) {
                    x.fault();
                }
            }
            case 2 -> x.read();
            case 3 -> x.fault();
            case 4 -> x.count(a);
            case 5 -> x.step(a, b, c);
            case 6, 7 -> x.run();
            case 8 -> x.found(a);
            case 9 -> x.show(a, b);
            case 10 -> x.length();
            case 11 -> x.who(a);
            case 12 -> x.race(a, b);
            case 13 -> x.thread(a, b, c);
            case 14 -> x.field(a, b);
            case 15 -> x.owner(a, b);
            case 16 -> x.stuck(a);
            case 17 -> x.whole(a);
            case 18 -> x.doubts();
            case 19 -> x.doubt(a, b);
            case 20 -> x.meet(a, b, c, d);
            case 21 -> x.guards(a);
            case 22 -> x.rings();
            default -> readSomething(x, chance);
        }
    }

    private static void readSomething(RaceLocks x, Random chance) {
        Texts texts = new Texts(chance.nextInt());
        String text = texts.program();
        byte[] bytes = Due.bytes(chance.nextInt(4) == 0 ? texts.spoilt(text) : text);
        if (bytes.length <= 1500) {
            Due.read(x, bytes);
        }
    }
}
