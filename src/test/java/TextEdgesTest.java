/**
 * The document's sentences about the tape, the tokens, the NAMES and the faults that name an edge: each
 * one stands above the tests that would fail if it were broken.
 */
public final class TextEdgesTest {
    private static final int BLANKS4 = 0x20202020;
    private static final String[] RESERVED = {"field", "open", "lock", "thread", "if", "else", "while", "wait", "wake",
        "all", "start", "join", "check", "stop", "span"};
    private static final String FULL_TELLING = "field a;open b;field c;open d;field e;open f;lock g;lock h;lock i;lock j;";

    public static void main(String[] args) {
        tapeOf1500();
        tapeIsUsedUp();
        twentyBytes();
        tapeIsCut();
        eachByte();
        eachByteBehind();
        lengthOfWords();
        digitsOfWords();
        numbers();
        longestSigns();
        blanks();
        reservedWords();
        nearlyReserved();
        fieldsAtMost();
        locksAtMost();
        threadsAtMost();
        eachNameOnce();
        orderOfTellings();
        localsAtMost();
        localsAndThreads();
        stepsAtMost();
        stepsOfStatements();
        spansAtMost();
        depthAtMost();
        valuesOfFields();
        valuesOfTests();
        placeOfFaults();
        leastKind();
        firstFault();
        neverTold();
        faultOfLatestRead();
        Due.close("TextEdgesTest");
    }

    private static void is(String what, long got, long want) {
        Due.is(what, got, want);
    }

    private static void is(String what, boolean so) {
        Due.is(what, so);
    }

    private static void fault(int kind, String marked) {
        Due.fault(kind, marked);
    }

    private static void sound(int steps, String text) {
        Due.sound(steps, text);
    }

    private static String times(int n, String text) {
        return text.repeat(n);
    }

    private static RaceLocks taped(String text) {
        RaceLocks x = new RaceLocks();
        Due.feed(x, Due.bytes(text));
        return x;
    }

    /** "The tape has at most 1500 bytes"; "IllegalStateException when there would be more than 1500." */
    private static void tapeOf1500() {
        String text = "thread t{stop;stop;}";
        for (int have = 1475; have <= 1500; have++) {
            String full = text + times(have - 20, " ");
            RaceLocks x = taped(full);
            boolean fits = have + 20 <= 1500;
            is("feed behind " + have + " throws", Due.feedThrows(x, BLANKS4, BLANKS4, BLANKS4, BLANKS4, BLANKS4) == !fits);
            is("it has as many as before, or 20 more", !Due.endThrows(x, fits ? have + 20 : have));
            is("and no more", Due.endThrows(x, fits ? have + 21 : have + 1));
            is("the text is as it was", x.read(), 2);
        }
        sound(1, times(1485, "\n") + "thread t{stop;}");
        sound(1, "thread t{stop" + times(1485, " ") + ";}");
        fault(1, times(1499, " ") + "@?");
        fault(2, times(1499, " ") + "@}");
        fault(2, "thread t{" + times(1491, " ") + "@");
        fault(2, "thread t{" + times(1490, " ") + "@=");
        // a tape full of tokens of one byte each, and of one token
        fault(2, "@" + times(1500, ";"));
        fault(1, "@" + times(1500, "a"));
        fault(1, "@" + times(1500, "7"));
        sound(0, times(1500, "\n"));
        RaceLocks x = taped(times(1500, " "));
        is("read of the full tape", x.read(), 0);
        for (int i = 1; i <= 75; i++) {
            is("then there is room again", x.feed(BLANKS4, BLANKS4, BLANKS4, BLANKS4, BLANKS4), 20 * i);
        }
        is("for 1500", Due.feedThrows(x, 0, 0, 0, 0, 0));
    }

    /** "what reads it uses it up" */
    private static void tapeIsUsedUp() {
        for (String text : new String[] {"thread t{stop;}", "thread t{stop", "?", "thread t{start u;}", " "}) {
            RaceLocks x = taped(text);
            x.read();
            is("end(1) throws after " + text, Due.endThrows(x, 1));
            is("end(0) does not", !Due.endThrows(x, 0));
            is("then it has twenty bytes", x.feed(BLANKS4, BLANKS4, BLANKS4, BLANKS4, BLANKS4), 20);
            is("of which one is no token", !Due.endThrows(x, 20));
            is("the text before is gone", x.read(), 0);
        }
        RaceLocks x = new RaceLocks();
        is("an empty tape", x.read(), 0);
        is("and again", x.read(), 0);
    }

    /** "Twenty bytes come behind the tape, each number's highest one first: how many it has." */
    private static void twentyBytes() {
        for (int at = 0; at < 20; at++) {
            for (int value : new int[] {0, 9, 31, 33, 127, 128, 255}) {
                int[] five = {BLANKS4, BLANKS4, BLANKS4, BLANKS4, BLANKS4};
                int shift = 24 - at % 4 * 8;
                five[at / 4] = five[at / 4] & ~(255 << shift) | value << shift;
                RaceLocks x = new RaceLocks();
                x.feed(BLANKS4, BLANKS4, BLANKS4, BLANKS4, BLANKS4);
                is("how many", x.feed(five[0], five[1], five[2], five[3], five[4]), 40);
                is("byte " + value + " in place " + at, x.read(), -1000 - 20 - at);
            }
        }
        RaceLocks x = new RaceLocks();
        is("the greatest numbers", x.feed(Integer.MAX_VALUE, -1, Integer.MIN_VALUE, 0, 1), 20);
        is("are bytes, too", x.read(), -1000);
    }

    /** "The tape is cut behind its first n bytes. IllegalArgumentException: n is below 0, or more than it has." */
    private static void tapeIsCut() {
        String text = "thread t{stop;}stop;";
        for (int n = 0; n <= 20; n++) {
            RaceLocks x = taped(text);
            x.end(n);
            is("one more than is left", Due.endThrows(x, n + 1));
            is("one below 0", Due.endThrows(x, -1));
            is("how many there are then", x.feed(BLANKS4, BLANKS4, BLANKS4, BLANKS4, BLANKS4), n + 20);
            x.end(n);
            int due = n == 0 ? 0 : n == 15 ? 1 : n <= 6 ? -1000 - (n < 6 ? 0 : 6) : n < 15 ? -1000 - n : -1015;
            is("read of the first " + n, x.read(), due);
        }
        RaceLocks x = taped(text);
        for (int wrong : new int[] {-1, Integer.MIN_VALUE, 21, 1500, 1501, Integer.MAX_VALUE}) {
            is("end(" + wrong + ") throws", Due.endThrows(x, wrong));
        }
        x.end(20);
        x.end(15);
        // "thre" "ad u" "{sto" "p;}\n" "\n\n\n\n" comes behind what is left
        is("feed behind the cut", x.feed(0x74687265, 0x61642075, 0x7b73746f, 0x703b7d0a, 0x0a0a0a0a), 35);
        is("both threads", x.read(), 2);
        x = new RaceLocks();
        for (int wrong : new int[] {-1, 1, 20}) {
            is("end(" + wrong + ") of nothing throws", Due.endThrows(x, wrong));
        }
        is("end(0) of nothing does not", !Due.endThrows(x, 0));
    }

    private static boolean isLetter(int b) {
        return "abcdefghijklmnopqrstuvwxyz".indexOf(b) >= 0;
    }

    private static boolean isDigit(int b) {
        return "0123456789".indexOf(b) >= 0;
    }

    private static boolean isSign(int b) {
        return "=;{}<>+-".indexOf(b) >= 0;
    }

    /** "TOKENS, between BLANKS (32, 10): WORDS .., NUMBERS (one digit 0 .. 7), and = ; { } < > + -": all bytes. */
    private static void eachByte() {
        for (int b = 0; b < 256; b++) {
            String text = "" + (char) b;
            boolean token = isLetter(b) || "01234567".indexOf(b) >= 0 || isSign(b);
            if (b == 32 || b == 10) {
                sound(0, text);
                sound(0, text + text);
            } else {
                fault(token ? 2 : 1, "@" + text);
                fault(token ? 2 : 1, " \n@" + text + " ");
            }
        }
    }

    /** The same bytes right behind a WORD, a NUMBER, a sign. */
    private static void eachByteBehind() {
        for (int b = 0; b < 256; b++) {
            char c = (char) b;
            boolean blank = b == 32 || b == 10;
            if (blank || isLetter(b) || isDigit(b)) {
                sound(0, "field a" + c + ";");
            } else if (b != ';') {
                // of '=' what stands behind it is at fault
                fault(b == '=' || isSign(b) ? 2 : 1, b == '=' ? "field a=@;" : "field a@" + c + ";");
            }
            if (blank) {
                sound(0, "field a=1" + c + ";");
            } else if (isLetter(b) || isDigit(b)) {
                fault(1, "field a=@1" + c + ";");
            } else if (b != ';') {
                fault(isSign(b) ? 2 : 1, "field a=1@" + c + ";");
            }
            if (blank) {
                sound(0, "field a=" + c + "1;");
            } else if (b == '=') {
                fault(2, "field a@==1;");
            } else if (isLetter(b)) {
                fault(2, "field a=@" + c + "1;");
            } else {
                fault(isSign(b) ? 2 : 1, "field a=@" + c + "1;");
            }
        }
    }

    /** "WORDS (a letter a .. z, then letters or digits, 6 bytes at most)", "1 no token (a WORD that is too long ..)" */
    private static void lengthOfWords() {
        for (int length = 1; length <= 12; length++) {
            for (String word : new String[] {times(length, "z"), "a" + times(length - 1, "9"), times(length - 1, "b") + "0"}) {
                if (word.charAt(0) == '0') {
                    continue;
                }
                if (length <= 6) {
                    sound(0, "field " + word + ";");
                    sound(1, "thread " + word + "{start " + word + ";}");
                    sound(1, "lock " + word + ";thread t{wake " + word + ";}");
                    sound(2, "thread t{" + word + "=" + word + ";check " + word + "<1;}");
                } else {
                    fault(1, "field @" + word + ";");
                    fault(1, "thread @" + word + "{}");
                    fault(1, "thread t{wake @" + word + ";}");
                    fault(1, "thread t{start @" + word + ";}");
                    fault(1, "thread t{@" + word + "=1;}");
                    fault(1, "thread t{r=@" + word + ";}");
                    fault(1, "thread t{check 1<@" + word + ";}");
                }
            }
        }
        // the end of a long WORD is not looked at alone
        fault(1, "@xxfield a;");
        fault(1, "@abcdefghfield a;");
        fault(1, "@abthread a{}");
        fault(1, "@threada{}");
        fault(2, "@fielda;");
        // all six bytes tell NAMES apart
        sound(0, "field abcdef;field abcdeg;field bbcdef;field abcde;lock abcdf0;lock a;thread b{}");
        fault(3, "field abcdef;field abcdeg;field @abcdef;");
    }

    private static void digitsOfWords() {
        for (char digit = '0'; digit <= '9'; digit++) {
            sound(0, "field a" + digit + ";field a" + digit + digit + ";");
            sound(0, "lock z0" + digit + "0aa;");
        }
        fault(1, "field a@/;");
        fault(1, "field a@:;");
        fault(1, "field a@`;");
        fault(2, "field a@{;");
        fault(1, "field @0a;");
        fault(2, "field @0;");
    }

    /** "NUMBERS (one digit 0 .. 7)", "a NUMBER with a digit or letter behind it, too" */
    private static void numbers() {
        String[][] places = {{"field a=", ";"}, {"open a=", ";"}, {"thread t{r=", ";}"}, {"thread t{r=", "+1;}"},
            {"thread t{r=1-", ";}"}, {"field f;thread t{f=", ";}"}, {"thread t{if ", "<1{}}"}, {"thread t{if 1>", "{}}"},
            {"thread t{while ", "==1{}}"}, {"thread t{while 1!=", "{}}"}, {"thread t{check ", "<1;}"}, {"thread t{check 1>", ";}"}};
        for (int i = 0; i < places.length; i++) {
            for (int value = 0; value <= 7; value++) {
                sound(i < 2 ? 0 : 1, places[i][0] + value + places[i][1]);
                sound(i < 2 ? 0 : 1, places[i][0] + "\n " + value + " \n" + places[i][1]);
            }
            for (String wrong : new String[] {"8", "9", "00", "07", "10", "77", "80", "7a", "0z", "8a", "1if"}) {
                fault(1, places[i][0] + "@" + wrong + places[i][1]);
            }
        }
        fault(2, "field a=1 @1;");
        fault(2, "field a=1 @x;");
        fault(2, "field a=@-1;");
    }

    /** "and, read as long as can be, == !=" */
    private static void longestSigns() {
        sound(1, "thread t{check 1==1;}");
        sound(1, "thread t{check 1!=1;}");
        fault(2, "thread t{check 1@= =1;}");
        fault(1, "thread t{check 1@! =1;}");
        fault(2, "thread t{check 1==@=1;}");
        fault(2, "thread t{check 1!=@=1;}");
        fault(2, "thread t{check 1==@==1;}");
        fault(1, "thread t{check 1==@!1;}");
        fault(2, "thread t{check 1@=!1;}");
        fault(1, "thread t{check 1@!!=1;}");
        fault(2, "thread t{check 1<@=1;}");
        fault(2, "thread t{check 1>@=1;}");
        fault(2, "thread t{check 1<@>1;}");
        fault(2, "thread t{r@==1;}");
        fault(2, "thread t{r= @=1;}");
        fault(2, "thread t{r@!=1;}");
        fault(2, "field a@==1;");
        fault(1, "@!");
        fault(2, "@!=");
        fault(2, "@==");
        fault(2, "@=");
        fault(1, "thread t{check 1@!");
        fault(2, "thread t{check 1==@");
    }

    /** "TOKENS, between BLANKS (32, 10)": none, one and many of them. */
    private static void blanks() {
        String[] tokens = {"field", "a", "=", "3", ";", "lock", "k", ";", "thread", "t", "{", "lock", "k", "{", "r", "=", "a", ";",
            "if", "r", "==", "3", "{", "r", "=", "r", "+", "1", ";", "}", "else", "{", "wake", "all", "k", ";", "}", "}", "}"};
        for (String blank : new String[] {" ", "\n", "  ", "\n\n", " \n ", "\n \n", times(30, " ")}) {
            String text = blank;
            for (String token : tokens) {
                text += token + blank;
            }
            sound(6, text);
        }
        sound(6, "field a=3;lock k;thread t{lock k{r=a;if r==3{r=r+1;}else{wake all k;}}}");
        // without a blank between them two WORDS are one
        fault(2, "@fielda=3;");
        fault(2, "thread t{wakea@;}");
    }

    /** "These words are no NAMES": each of them, wherever a NAME can stand. */
    private static void reservedWords() {
        String told = "field f;lock k;thread u{}thread t{";
        for (String word : RESERVED) {
            fault(2, "field @" + word + ";");
            fault(2, "open @" + word + "=1;");
            fault(2, "lock @" + word + ";");
            fault(2, "thread @" + word + "{}");
            fault(2, told + "r=@" + word + ";}");
            fault(2, told + "r=1+@" + word + ";}");
            fault(2, told + "f=@" + word + ";}");
            fault(2, told + "if @" + word + "<1{}}");
            fault(2, told + "while 1<@" + word + "{}}");
            fault(2, told + "check @" + word + "<1;}");
            fault(2, told + "lock @" + word + "{}}");
            fault(2, told + "wait @" + word + ";}");
            fault(2, told + "wake " + (word.equals("all") ? "all@;}" : "@" + word + ";}"));
            fault(2, told + "wake all @" + word + ";}");
            fault(2, told + "start @" + word + ";}");
            fault(2, told + "join @" + word + ";}");
        }
        for (String word : new String[] {"field", "open", "thread", "else", "all"}) {
            fault(2, told + "@" + word + "=1;}");
        }
        for (String word : new String[] {"lock", "if", "while", "wait", "wake", "start", "join", "check", "stop", "span"}) {
            fault(2, told + word + "@=1;}");
        }
    }

    private static void nearlyReserved() {
        for (String word : RESERVED) {
            String[] near = {word.substring(1), word.substring(0, word.length() - 1), word + "0", "x" + word};
            for (String name : near) {
                if (name.length() <= 6) {
                    sound(1, "field " + name + ";thread t{r=" + name + ";}");
                    sound(1, "thread t{" + name + "=1;}");
                }
            }
        }
    }

    private static String tellings(String sort, int howMany) {
        String text = "";
        for (int i = 0; i < howMany; i++) {
            text += sort + " n" + i + (sort.equals("thread") ? "{}" : ";");
        }
        return text;
    }

    /** "FIELDS (6 at most; open ones, too)", "one too many: a field, .. (at the NAME)" */
    private static void fieldsAtMost() {
        for (String sort : new String[] {"field", "open"}) {
            for (int n = 0; n <= 6; n++) {
                RaceLocks x = Due.with(tellings(sort, n));
                is("fields", x.count(0), n);
                is("guards of the last one", x.guards(n - 1), n == 0 ? RaceLocks.OUTSIDE : 0);
                is("guards of the one behind it", x.guards(n), RaceLocks.OUTSIDE);
            }
            for (String other : new String[] {"field", "open"}) {
                fault(4, tellings(sort, 6) + other + " @x;");
                fault(4, tellings(sort, 6) + other + " @x=1;");
                fault(4, tellings(sort, 6) + tellings("lock", 0) + other + " @x?");
            }
        }
        sound(0, FULL_TELLING);
        fault(4, "field a;open b;field c;open d;field e;open f;field @g;");
        fault(4, FULL_TELLING + "open @k;");
    }

    /** "LOCKS (4)" */
    private static void locksAtMost() {
        for (int n = 0; n <= 4; n++) {
            RaceLocks x = Due.with("field f;" + tellings("lock", n));
            is("locks", x.count(1), n);
            is("all of them guard", x.guards(0), (1 << n) - 1);
            is("one state", x.run(), 1);
            is("owner of the last one", x.owner(0, n - 1), n == 0 ? RaceLocks.OUTSIDE : RaceLocks.NONE);
            is("owner of the one behind it", x.owner(0, n), RaceLocks.OUTSIDE);
        }
        fault(4, tellings("lock", 4) + "lock @x;");
        fault(4, tellings("lock", 4) + "lock @x{}");
        sound(0, tellings("lock", 4) + "field x;");
        fault(4, FULL_TELLING + "lock @k;");
    }

    /** "THREADS (4)" */
    private static void threadsAtMost() {
        for (int n = 0; n <= 4; n++) {
            RaceLocks x = Due.with(tellings("thread", n));
            is("threads", x.count(2), n);
            is("one state", x.run(), 1);
            is("the last one", x.thread(0, n - 1, 0), n == 0 ? RaceLocks.OUTSIDE : 4);
            is("the one behind it", x.thread(0, n, 0), RaceLocks.OUTSIDE);
        }
        fault(4, tellings("thread", 4) + "thread @x{}");
        fault(4, tellings("thread", 4) + "thread @x");
        fault(4, tellings("thread", 4) + "thread @x{start y;}");
        sound(0, FULL_TELLING + "thread k{}thread l{}thread m{}thread n{}");
        fault(4, FULL_TELLING + "thread k{}thread l{}thread m{}thread n{}thread @o{}");
    }

    /** "NAMES .. each once", "3 a NAME told a second time" */
    private static void eachNameOnce() {
        String[] sorts = {"field", "open", "lock", "thread"};
        for (int first = 0; first < 4; first++) {
            for (int second = 0; second < 4; second++) {
                String begin = sorts[first] + " abc" + (first == 3 ? "{}" : ";");
                if (first < 3 || second == 3) {
                    fault(3, begin + sorts[second] + " @abc" + (second == 3 ? "{}" : ";"));
                    fault(3, begin + sorts[second] + " @abc?");
                }
            }
        }
        fault(3, "field a;field b;field c;lock @b;");
        fault(3, FULL_TELLING + "thread @j{}");
        fault(3, "thread a{}thread b{}thread c{}thread @a{}");
        // a thread's own NAME is told before its statements
        fault(2, "thread t{@t=1;}");
    }

    /** "text: { 'field' .. | 'open' .. | 'lock' .. } { 'thread' .. }" */
    private static void orderOfTellings() {
        sound(0, "lock k;field f;lock l;open g;field h;");
        for (String late : new String[] {"field f;", "open f;", "lock k;", "stop;", "r=1;", "span{}", "}", "{", ";"}) {
            fault(2, "thread t{}@" + late);
            fault(2, "thread t{stop;}thread u{}@" + late);
        }
        for (String never : new String[] {"if 1<2{}", "while 1<2{}", "wait k;", "wake k;", "start t;", "join t;", "check 1<2;",
            "stop;", "else{}", "all", "span{}", "r=1;", "}", "=", "3"}) {
            fault(2, "lock k;@" + never);
        }
        fault(2, "lock k@=1;");
        fault(2, "lock k@{}");
        fault(2, "field f@");
        fault(2, "field f=@");
        fault(2, "field f=1@");
        fault(2, "thread t@");
    }

    /** "a LOCAL of its thread (3 at most in each; numbered as they come first; 0 at first ..)" */
    private static void localsAtMost() {
        String three = "a=1;b=2;c=3;";
        sound(12, "thread t{" + three + "}thread u{" + three + "}thread v{" + three + "}thread w{" + three + "}");
        sound(12, "thread t{d=1;e=2;f=3;}thread u{" + three + "}thread v{g=1;h=2;i=3;}thread w{j=1;k=2;l=3;}");
        fault(4, "thread t{" + three + "}thread u{" + three + "@d=1;}");
        for (String all : new String[] {"a=1;b=1;c=1;", "a=b;c=1;", "a=b+c;", "a=b-c;", "a=a+b;c=a-b;"}) {
            sound(all.split(";").length + 3, "thread t{" + all + "a=b;b=c;c=a+b;}");
            fault(4, "thread t{" + all + "@d=1;}");
            fault(4, "thread t{" + all + "@d=d;}");
            fault(4, "thread t{" + all + "a=@d;}");
            fault(4, "thread t{" + all + "a=@d+1;}");
            fault(4, "thread t{" + all + "a=1+@d;}");
            fault(4, "thread t{" + all + "a=a-@d;}");
            fault(4, "field f;thread t{" + all + "f=@d;}");
            fault(4, "field f;thread t{" + all + "@d=f;}");
            fault(4, "thread t{" + all + "}thread u{" + all + "@d=1;}");
        }
        // two that are new in one statement, where there is room for one
        fault(4, "thread t{a=1;b=c+@d;}");
        fault(4, "thread t{a=1;b=1;c=@d;}");
        fault(4, "thread t{a=1;b=1;c=1-@d;}");
        RaceLocks x = Due.with("thread t{p=q+1;r=p;q=7;}thread u{q=3;p=q;}");
        int states = x.run();
        Due.thread(x, 0, 0, 1, 0, 1, 0, 0, 0);
        Due.thread(x, 0, 1, 1, 0, 1, 0, 0, 0);
        Due.thread(x, states - 1, 0, 4, 3, 0, 1, 7, 1);
        Due.thread(x, states - 1, 1, 4, 2, 0, 3, 3, 0);
    }

    /** "threads (anywhere in the text)", "what is a local here may be a thread's NAME elsewhere" */
    private static void localsAndThreads() {
        sound(3, "thread t{u=1;start u;u=u+1;}thread u{}");
        sound(3, "thread t{v=1;v=v-u;}thread u{start v;}thread v{}");
        fault(2, "thread t{u=1;}thread u{v=1;}thread v{@u=1;}");
        fault(2, "thread t{}thread u{@t=1;}");
        fault(2, "thread t{}thread u{r=@t;}");
        fault(2, "thread t{}thread u{r=1-@t;}");
        sound(2, "thread t{start w;}thread u{join w;}thread v{}thread w{}");
        sound(2, "thread v{}thread w{}thread t{start w;}thread u{join w;}");
        RaceLocks x = Due.with("thread t{u=5;start u;}thread u{t1=6;}");
        is("states", x.run(), 4);
        Due.thread(x, 3, 0, 4, 2, 0, 5);
        Due.thread(x, 3, 1, 4, 1, 0, 6);
    }

    /** "STEPS of a thread are numbered as they come (24 at most)", "a step (at the token with which its statement begins ..)" */
    private static void stepsAtMost() {
        String[] ones = {"r=1;", "f=1;", "r=f;", "r=r+1;", "if 1<2{}", "if 1<2{}else{}", "while 1<2{}", "wait k;", "wake k;",
            "wake all k;", "start u;", "join u;", "check 1<2;", "stop;"};
        String told = "field f;lock k;thread u{}thread t{";
        for (String one : ones) {
            for (String filler : new String[] {"stop;", "f=2;"}) {
                sound(24, told + times(23, filler) + one + "}");
                fault(4, told + times(24, filler) + "@" + one + "}");
                fault(4, told + times(23, filler) + one + "@" + one + "}");
                sound(24, told + times(24, filler) + "}thread v{}");
                sound(25, told + times(24, filler) + "}thread v{" + one + "}");
            }
            fault(4, told + times(22, "stop;") + "if 1<2{stop;@" + one + "}}");
            fault(4, told + times(23, "stop;") + "while 1<2{@" + one + "}}");
            fault(4, told + times(22, "stop;") + "if 1<2{}else{stop;@" + one + "}}");
            fault(4, told + times(24, "stop;") + "span{@" + one + "}}");
        }
        // "of leaving a lock at the }"
        sound(24, told + times(22, "stop;") + "lock k{}}");
        fault(4, told + times(23, "stop;") + "lock k{@}}");
        fault(4, told + times(24, "stop;") + "@lock k{}}");
        sound(24, told + times(21, "stop;") + "lock k{stop;}}");
        fault(4, told + times(22, "stop;") + "lock k{stop;@}}");
        fault(4, told + times(22, "stop;") + "lock k{stop;@stop;}}");
        fault(4, told + times(22, "stop;") + "lock k{lock k{@}}}");
        fault(4, told + times(21, "stop;") + "lock k{lock k{}@}}");
        sound(24, told + times(20, "stop;") + "lock k{lock k{}}}");
        sound(24, told + times(24, "stop;") + "span{}}");
        String full = "{" + times(24, "stop;") + "}";
        sound(96, "thread a" + full + "thread b" + full + "thread c" + full + "thread d" + full);
        RaceLocks x = Due.with("thread a" + full);
        is("the last step", x.step(0, 23, 0), 13);
        is("behind it are", x.step(0, 23, 2), 24);
        is("one behind", x.step(0, 24, 0), RaceLocks.OUTSIDE);
        is("no step at all", Due.with("thread a{}").step(0, 0, 0), RaceLocks.OUTSIDE);
        is("nor before the first one", x.step(0, -1, 0), RaceLocks.OUTSIDE);
    }

    /** "A statement is one STEP, but: 'lock' is two .., 'while' and 'if' one (the test), 'span' none." */
    private static void stepsOfStatements() {
        String told = "field f;lock k;thread u{}thread t{";
        String[] ones = {"r=1;", "f=1;", "r=f;", "r=1+1;", "wait k;", "wake k;", "wake all k;", "start u;", "join u;",
            "check 1<2;", "stop;", "if 1<2{}", "if 1<2{}else{}", "while 1<2{}"};
        for (String one : ones) {
            sound(1, told + one + "}");
            sound(1, told + "span{" + one + "}}");
            sound(2, told + "if 1<2{" + one + "}}");
            sound(2, told + "if 1<2{}else{" + one + "}}");
            sound(3, told + "if 1<2{" + one + "}else{" + one + "}}");
            sound(2, told + "while 1<2{" + one + "}}");
            sound(3, told + "lock k{" + one + "}}");
        }
        sound(2, told + "lock k{}}");
        sound(0, told + "span{}}");
        sound(0, told + "}");
    }

    /** "SPANS in the order of their 'span' (6 at most, not in one another)", "a span (at 'span')" */
    private static void spansAtMost() {
        for (int n = 0; n <= 6; n++) {
            RaceLocks x = Due.with("thread t{" + times(n, "span{stop;}") + "}");
            is("spans", x.count(3), n);
            for (int i = 0; i < n; i++) {
                is("the span of step " + i, x.step(0, i, 5), i);
            }
            x.run();
            is("the last span", x.whole(n - 1), n == 0 ? RaceLocks.OUTSIDE : 1);
            is("the one behind it", x.whole(n), RaceLocks.OUTSIDE);
        }
        fault(4, "thread t{" + times(6, "span{}") + "@span{}}");
        fault(4, "thread t{" + times(6, "span{}") + "@span}");
        fault(4, "thread t{" + times(2, "span{}") + "}thread u{" + times(4, "span{}") + "}thread v{@span{}}");
        sound(0, "thread t{" + times(2, "span{}") + "}thread u{" + times(4, "span{}") + "}thread v{}");
        RaceLocks x = Due.with("thread t{span{stop;}stop;}thread u{stop;if 1<2{span{stop;}}span{lock1=1;}}");
        int[][] due = {{0, 0, 0}, {0, 1, -1}, {1, 0, -1}, {1, 1, -1}, {1, 2, 1}, {1, 3, 2}};
        for (int[] row : due) {
            is("the span of " + row[0] + " " + row[1], x.step(row[0], row[1], 5), row[2]);
        }
        fault(2, "thread t{span{@span{}}}");
        fault(2, "lock k;thread t{span{lock k{@span{}}}}");
        fault(2, "thread t{span{while 1<2{if 1<2{}else{@span{}}}}}");
        fault(2, "thread t{" + times(5, "span{}") + "span{stop;@span{}}}");
        sound(2, "thread t{if 1<2{span{}}else{span{}}while 1<2{span{}}span{}}");
    }

    /** "{ are 8 deep at most in one another (the thread's own is the first)", "a { (at it)" */
    private static void depthAtMost() {
        String told = "lock k;thread t{";
        String[] opens = {"lock k{", "if 1<2{", "while 1<2{", "if 1<2{}else{"};
        int[] steps = {2, 1, 1, 1};
        for (int i = 0; i < 4; i++) {
            for (int n = 0; n <= 7; n++) {
                sound(n * steps[i], told + times(n, opens[i]) + times(n, "}") + "}");
            }
            String seven = told + times(7, opens[i]);
            for (String ninth : new String[] {"lock k@{", "if 1<2@{", "while 1<2@{", "span@{"}) {
                fault(4, seven + ninth + times(9, "}"));
                fault(4, seven + ninth);
            }
            fault(4, seven + "if 1<2@{}else{}");
            // what is shut again does not count
            String six = told + times(6, opens[i]);
            sound(6 * steps[i] + 3, six + "if 1<2{}else{}while 1<2{}if 1<2{}span{}" + times(6, "}") + "}");
            sound(6 * steps[i] + 1, six + times(6, "}") + "if 1<2{}}");
            sound(7 * steps[i], told + times(7, opens[i]) + times(7, "}") + "}thread u{}");
        }
        sound(6, told + times(6, "if 1<2{") + "span{" + times(6, "}") + "}}");
        fault(4, told + "span{" + times(6, "if 1<2{") + "while 1<2@{");
        sound(12, told + times(6, "if 1<2{") + times(6, "}") + "}thread u{" + times(6, "if 1<2{") + times(6, "}") + "}");
    }

    /** "A value that is a field can stand only alone, right of = with a local left of it .." */
    private static void valuesOfFields() {
        for (String sort : new String[] {"field", "open"}) {
            String told = sort + " f;" + sort + " g;lock k;thread u{}thread t{";
            sound(1, told + "r=f;}");
            sound(1, told + "f=r;}");
            sound(1, told + "f=7;}");
            fault(2, told + "r=f@+1;}");
            fault(2, told + "r=f@-1;}");
            fault(2, told + "r=f@+f;}");
            fault(2, told + "r=1+@f;}");
            fault(2, told + "r=r-@f;}");
            fault(2, told + "f=@g;}");
            fault(2, told + "f=@f;}");
            fault(2, told + "f=r@+1;}");
            fault(2, told + "f=r@-r;}");
            fault(2, told + "f=1@+1;}");
            fault(2, told + "f=1@-r;}");
            fault(2, told + "f=@k;}");
            fault(2, told + "r=@k;}");
            fault(2, told + "r=@u;}");
            fault(2, told + "f@;}");
            fault(2, told + "f=@;}");
        }
    }

    /** "In a test (and check) are locals that have come before and NUMBERS" */
    private static void valuesOfTests() {
        String told = "field f;open o;lock k;thread u{q=1;}thread t{";
        String[][] tests = {{"if ", "{}}"}, {"while ", "{}}"}, {"check ", ";}"}};
        for (String[] test : tests) {
            for (String sign : new String[] {"==", "!=", "<", ">"}) {
                sound(2, told + test[0] + "1" + sign + "2" + test[1]);
                sound(3, told + "r=1;" + test[0] + "r" + sign + "2" + test[1]);
                sound(3, told + "r=1;" + test[0] + "7" + sign + "r" + test[1]);
                sound(3, told + "r=f;" + test[0] + "r" + sign + "r" + test[1]);
                sound(3, told + "r=s+p;" + test[0] + "p" + sign + "s" + test[1]);
                sound(3, told + "f=s;" + test[0] + "s" + sign + "s" + test[1]);
                for (String wrong : new String[] {"f", "o", "k", "u", "t"}) {
                    fault(2, told + test[0] + "@" + wrong + sign + "1" + test[1]);
                    fault(2, told + test[0] + "1" + sign + "@" + wrong + test[1]);
                }
                fault(3, told + test[0] + "@q" + sign + "1" + test[1]);
                fault(3, told + test[0] + "1" + sign + "@q" + test[1]);
                fault(2, told + test[0] + "1" + sign + "2@+1" + test[1]);
                fault(2, told + test[0] + "1@-1" + sign + "2" + test[1]);
            }
            for (String sign : new String[] {"=", "+", "-", ";", "{", "}"}) {
                fault(2, told + test[0] + "1@" + sign + "2" + test[1]);
            }
            fault(2, told + test[0] + "1 @1" + test[1]);
            fault(2, told + test[0] + "@");
            fault(2, told + test[0] + "1@");
            fault(2, told + test[0] + "1<@");
            fault(2, told + test[0] + "1<1@");
        }
    }

    /** "a PLACE (its token's first byte; the end: how many bytes there are)" */
    private static void placeOfFaults() {
        String text = "field f;lock k;thread t{lock k{r=f;if r<1{f=r;}else{wake all k;}}start t;}";
        for (int n = 0; n <= text.length(); n++) {
            boolean whole = n == 0 || n == 8 || n == 15 || n == text.length();
            String cut = text.substring(0, n);
            RaceLocks x = taped(cut + "  ");
            int answer = x.read();
            if (whole) {
                is("read of " + cut, answer >= 0);
            } else {
                boolean inWord = n > 0 && Character.isLetter(text.charAt(n - 1)) && Character.isLetter(text.charAt(n));
                is("the fault of " + cut + " is at the end, or at a WORD that is cut", answer == -1000 - n - 2 || inWord);
                is("of kind 2, or of a NAME", x.fault() == 2 || inWord);
            }
        }
        fault(2, "field@");
        fault(2, "field @");
        fault(2, "field \n\n@");
        fault(2, "thread t{r=1;@");
        fault(2, "thread t{r=1; @");
        fault(2, "   @;");
        fault(1, "   @abcdefg");
        fault(1, "field a=@12345;");
        fault(2, "field abcdef =@;");
        fault(3, "field abcdef;\nfield @abcdef ;");
    }

    /** "Of one token the least" */
    private static void leastKind() {
        String steps24 = "field f;lock k;thread u{}thread t{" + times(24, "stop;");
        String spans6 = "thread t{" + times(6, "span{}");
        String depth8 = "lock k;thread t{" + times(7, "if 1<2{");
        // 1 before 2 and 4
        fault(1, tellings("field", 6) + "field @abcdefg;");
        fault(1, tellings("field", 6) + "field @8;");
        fault(1, steps24 + "@?=1;}");
        fault(1, steps24 + "@abcdefg=1;}");
        fault(1, depth8 + "if 1<2@?");
        fault(1, "thread t{a=b+c;@8=1;}");
        // 2 before 3 and 4
        fault(2, tellings("field", 6) + "field @field;");
        fault(2, tellings("lock", 4) + "lock @7;");
        fault(2, tellings("thread", 4) + "thread @{}");
        fault(2, steps24 + "@;}");
        fault(2, steps24 + "@else{}}");
        fault(2, steps24 + "@k=1;}");
        fault(2, steps24 + "@u=1;}");
        fault(2, steps24 + "@field g;}");
        fault(2, "thread t{" + times(5, "span{}") + "span{@span{}}}");
        fault(2, "lock k;thread t{a=b+c;@k=1;}");
        fault(2, "lock k;thread t{a=b+c;a=@k;}");
        fault(2, depth8 + "if 1<2@;");
        // 3 before 4
        fault(3, tellings("field", 6) + "field @n0;");
        fault(3, tellings("field", 6) + "open @n5=1;");
        fault(3, tellings("lock", 4) + "lock @n3;");
        fault(3, "field x;" + tellings("lock", 4) + "lock @x;");
        fault(3, tellings("thread", 4) + "thread @n2{}");
        // both 4
        fault(4, "thread t{" + times(24, "a=b+c;") + "@d=1;}");
        sound(24, spans6 + times(24, "stop;") + "}");
        fault(4, spans6 + times(24, "stop;") + "@span{}}");
    }

    /** "the first from the left" */
    private static void firstFault() {
        fault(2, "field a @b;field a;?");
        fault(3, "field a;lock @a;field field;?");
        fault(1, "field a;field @?;field a;");
        fault(4, tellings("field", 6) + "field @x;field n0;");
        fault(3, tellings("field", 6) + "lock @n0;field x;");
        fault(2, "thread t{start u;}thread u{@;}?");
        fault(4, "thread t{a=b+c;@d=?");
        fault(2, "thread t{a=b+c;a@;d=1;}");
        fault(2, "lock k;thread t{wake k@}?");
        fault(4, "lock k;thread t{" + times(24, "stop;") + "@lock x{");
        fault(3, "lock k;thread t{" + times(23, "stop;") + "lock @x{}}");
        fault(3, "thread t{" + times(7, "if 1<2{") + "lock @k{");
    }

    /** "If there is none: 5 a thread that is never told (at the first NAME of it, from the left)." */
    private static void neverTold() {
        for (String step : new String[] {"start", "join"}) {
            fault(5, "thread t{" + step + " @u;}");
            fault(5, "thread t{" + step + " @u;" + step + " u;}thread v{" + step + " u;}");
            fault(5, "thread t{" + step + " t;" + step + " @u;" + step + " v;}");
            fault(5, "thread t{" + step + " v;}thread v{" + step + " @u;}");
            fault(5, "thread t{if 1<2{" + step + " @w;}else{" + step + " u;}}thread u{" + step + " x;}");
            fault(5, "thread t{stop;" + step + " @u;}");
            fault(5, "thread t{u=1;" + step + " @u;}");
            fault(5, "thread t{" + times(23, "stop;") + step + " @u;}");
            sound(1, "thread t{" + step + " u;}thread u{}");
            sound(1, "thread t{}thread u{" + step + " t;}");
            sound(1, "thread t{" + step + " t;}");
            // any other fault comes first, wherever it stands
            fault(1, "thread t{" + step + " u;}@?");
            fault(2, "thread t{" + step + " u;@");
            fault(3, "thread t{" + step + " u;}thread @t{}");
            fault(4, "thread t{" + step + " u;a=b+c;a=@d;}");
            // a field's or a lock's NAME is none of a thread
            fault(2, "field u;thread t{" + step + " @u;}");
            fault(2, "lock u;thread t{" + step + " @u;}");
        }
        fault(5, "thread a{start b;}thread b{start c;}thread c{start d;}thread d{start @e;join f;}");
    }

    /** "The KIND of the FAULT of the latest read(); 0." */
    private static void faultOfLatestRead() {
        RaceLocks x = new RaceLocks();
        is("before any read", x.fault(), 0);
        String[] texts = {"?", ";", "field a;field a;", tellings("lock", 5), "thread t{start u;}", ""};
        for (int kind = 1; kind <= 6; kind++) {
            int answer = Due.read(x, texts[kind - 1]);
            is("read below 0, but of the last one", answer < 0 == kind < 6);
            for (int again = 0; again < 2; again++) {
                is("the kind", x.fault(), kind % 6);
                x.feed(0x3f3f3f3f, 0, 0, 0, 0);
                is("run", x.run(), kind < 6 ? RaceLocks.STATE : 1);
            }
        }
        is("the least answer of a fault", Due.read(new RaceLocks(), "?"), -1000);
        is("the greatest place", Due.read(new RaceLocks(), "thread t{" + times(1491, " ")), -2500);
    }
}
