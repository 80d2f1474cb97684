/** The example of README.md; ExampleTest looks that each answer is the one that is written behind it. */
public final class Example {
    private static final String TEXT = "field x; lock m; lock k;"
            + "thread a { span { r = x; s = x; } check r == s; lock m { lock k { } } }"
            + "thread b { x = 1; lock k { lock m { } } }";

    public static void main(String[] args) {
        RaceLocks x = new RaceLocks();
        System.out.println(read(x, "field x; thread a{r=8;}")); // -1020: a fault at byte 20
        System.out.println(x.fault());              // 1: its kind (8 is no token)

        System.out.println(read(x, TEXT));          // 12 steps
        System.out.println(x.step(0, 2, 0));        // 12: the third step of a is a check
        System.out.println(x.run());                // 81 states; MANY if there are more than 4000
        System.out.println(x.found(2));             // 2 races
        System.out.println(x.race(1, 1));           // 1: the second one is of step 1 of a
        System.out.println(x.race(1, 3));           // 0: and step 0 of b
        System.out.println(x.show(0, 1));           // 1: the least state in which it shows
        System.out.println(x.length());             // 1: the schedule to that state has one step
        System.out.println(x.who(0));               // 0: which a takes

        int stuck = x.show(1, 0);
        System.out.println(stuck);                  // 38: the first state in which all stop for ever
        System.out.println(x.stuck(stuck));         // 1: as some threads stand in a ring
        System.out.println(x.owner(stuck, 0));      // 0: m is a's
        System.out.println(x.thread(stuck, 1, 1));  // 2: b is about to take it

        int failed = x.show(4, 0);
        System.out.println(x.thread(failed, 0, 0)); // 5: the check of a may fail
        System.out.println(x.whole(0));             // 0: but not if the span is done at once

        System.out.println(x.doubts());             // 2 pairs that might race, by the text alone
        System.out.println(x.guards(0));            // 0: no lock guards x
        System.out.println(x.rings());              // 1 ring of locks
    }

    private static int read(RaceLocks x, String text) {
        x.end(0);
        for (int i = 0; i < text.length(); i += 20) {
            x.feed(four(text, i), four(text, i + 4), four(text, i + 8), four(text, i + 12), four(text, i + 16));
        }
        x.end(text.length());
        return x.read();
    }

    private static int four(String text, int from) {
        int number = 0;
        for (int i = from; i < from + 4; i++) {
            number = number << 8 | (i < text.length() ? text.charAt(i) : 0);
        }
        return number;
    }
}
