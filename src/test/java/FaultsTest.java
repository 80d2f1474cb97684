/** Texts with a fault, whose place is marked by @ (which is taken out), and texts without. */
public final class FaultsTest {
    private static final String FIELDS6 = "field a;field b;open c;field d;open e;field f;";
    private static final String LOCKS4 = "lock k;lock l;lock m;lock n;";

    public static void main(String[] args) {
        noToken();
        misplaced();
        wrongSort();
        names();
        tooMany();
        tooManySteps();
        untold();
        firstFromTheLeft();
        sound();
        Due.close("FaultsTest");
    }

    private static void fault(int kind, String marked) {
        Due.fault(kind, marked);
    }

    private static void sound(int steps, String text) {
        Due.sound(steps, text);
    }

    private static String times(int n, String text) {
        return text.repeat(n);
    }

    private static void noToken() {
        fault(1, "@?");
        fault(1, "@!");
        fault(1, "@\t");
        fault(1, "@\r");
        fault(1, "@\0");
        fault(1, "@\u00e9");
        fault(1, "field a@A;");
        fault(1, "field @A;");
        fault(1, "field a@_b;");
        fault(1, "field @abcdefg;");
        fault(1, "@threads a{}");
        fault(1, "field a=@8;");
        fault(1, "field a=@9;");
        fault(1, "field a=@12;");
        fault(1, "field a=@18;");
        fault(1, "field a=@1x;");
        fault(1, "field a=1@X;");
        fault(1, "thread t{check 1@!1;}");
        fault(1, "thread t{check 1@! =1;}");
        fault(1, "thread t{r=@1r;}");
    }

    private static void misplaced() {
        fault(2, "@a");
        fault(2, "@;");
        fault(2, "@{");
        fault(2, "@if");
        fault(2, "@span{}");
        fault(2, "field@");
        fault(2, "field  \n @");
        fault(2, "field @;");
        fault(2, "field @field;");
        fault(2, "field @all;");
        fault(2, "field @7;");
        fault(2, "field a@");
        fault(2, "field a @field b;");
        fault(2, "field a=@;");
        fault(2, "field a=@b;");
        fault(2, "field a@==1;");
        fault(2, "field a=1 @2;");
        fault(2, "lock k@=1;");
        fault(2, "lock @span;");
        fault(2, "thread @{}");
        fault(2, "thread t@;");
        fault(2, "thread t{@");
        fault(2, "thread t{}@}");
        fault(2, "thread t{}@field a;");
        fault(2, "thread t{}@open a;");
        fault(2, "thread t{}@lock k;");
        fault(2, "thread t{@field a;}");
        fault(2, "thread t{@open a;}");
        fault(2, "thread t{@thread u{}}");
        fault(2, "thread t{@else{}}");
        fault(2, "thread t{@all;}");
        fault(2, "thread t{@;}");
        fault(2, "thread t{@3=r;}");
        fault(2, "thread t{@{}}");
        fault(2, "thread t{if 1==1{}else{}@else{}}");
        fault(2, "thread t{while 1==1{}@else{}}");
        fault(2, "thread t{if 1==1{}else @if 1==1{}}");
        fault(2, "thread t{if 1==1@;}");
        fault(2, "thread t{if 1@=1{}}");
        fault(2, "thread t{if 1<@=1{}}");
        fault(2, "thread t{if 1==@=1{}}");
        fault(2, "thread t{if @{}}");
        fault(2, "thread t{check 1@;}");
        fault(2, "thread t{check 1<2@+1;}");
        fault(2, "thread t{stop@}");
        fault(2, "thread t{r@;}");
        fault(2, "thread t{r@==1;}");
        fault(2, "thread t{r @1;}");
        fault(2, "thread t{r @s;}");
        fault(2, "field f;thread t{r @f;}");
        fault(2, "field f;thread t{f @1;}");
        fault(2, "field f;thread t{f @r;}");
        fault(2, "thread t{r=@;}");
        fault(2, "thread t{r=@stop;}");
        fault(2, "thread t{r=1+@;}");
        fault(2, "thread t{r=1+1@+1;}");
        fault(2, "thread t{r=1@<1;}");
        fault(2, "lock k;thread t{lock k@;}");
        fault(2, "lock k;thread t{lock @{}}");
        fault(2, "lock k;thread t{wait @all k;}");
        fault(2, "lock k;thread t{wake all@;}");
        fault(2, "lock k;thread t{wake all @all k;}");
        fault(2, "lock k;thread t{wait k@{}}");
        fault(2, "thread t{start @;}");
        fault(2, "thread t{start t@}");
        fault(2, "thread t{join @3;}");
        fault(2, "thread t{span{@span{}}}");
        fault(2, "thread t{span{if 1<2{@span{}}}}");
    }

    /** A NAME of another sort than can stand there is as wrong as any other token. */
    private static void wrongSort() {
        String told = "field f;open o;lock k;thread u{}";
        fault(2, told + "thread t{@k=1;}");
        fault(2, told + "thread t{@u=1;}");
        fault(2, told + "thread t{@t=1;}");
        fault(2, told + "thread t{f=@o;}");
        fault(2, told + "thread t{f=@k;}");
        fault(2, told + "thread t{f=@u;}");
        fault(2, told + "thread t{r=@k;}");
        fault(2, told + "thread t{r=@u;}");
        fault(2, told + "thread t{r=1+@f;}");
        fault(2, told + "thread t{r=r-@o;}");
        fault(2, told + "thread t{r=f@+1;}");
        fault(2, told + "thread t{r=o@-r;}");
        fault(2, told + "thread t{f=1@+1;}");
        fault(2, told + "thread t{f=r@-1;}");
        fault(2, told + "thread t{if @f==1{}}");
        fault(2, told + "thread t{while 1<@o{}}");
        fault(2, told + "thread t{check @k!=1;}");
        fault(2, told + "thread t{check 1>@u;}");
        fault(2, told + "thread t{if 1<@t{}}");
        fault(2, told + "thread t{r=1;while @f>r{}}");
        fault(2, told + "thread t{if @if==1{}}");
        fault(2, told + "thread t{lock @f{}}");
        fault(2, told + "thread t{lock @u{}}");
        fault(2, told + "thread t{wait @o;}");
        fault(2, told + "thread t{wake @t;}");
        fault(2, told + "thread t{wake all @f;}");
        fault(2, told + "thread t{r=1;lock @r{}}");
        fault(2, told + "thread t{start @f;}");
        fault(2, told + "thread t{start @o;}");
        fault(2, told + "thread t{join @k;}");
        fault(2, told + "thread t{join @if;}");
    }

    private static void names() {
        fault(3, "field a;field @a;");
        fault(3, "field a;open @a;");
        fault(3, "open a;lock @a;");
        fault(3, "lock a;field @a;");
        fault(3, "lock a;lock @a;");
        fault(3, "field a;thread @a{}");
        fault(3, "lock a;thread @a{}");
        fault(3, "thread a{}thread @a{}");
        fault(3, "thread t{lock @k{}}");
        fault(3, "thread t{wait @k;}");
        fault(3, "thread t{wake @k;}");
        fault(3, "thread t{wake all @k;}");
        fault(3, "thread s{r=1;}thread t{lock @r{}}");
        untoldInTest();
        fault(3, FIELDS6 + "field @a;");
        fault(3, LOCKS4 + "lock @k;");
        fault(3, "thread a{}thread b{}thread c{}thread d{}thread @c{}");
    }

    /** A NAME that is nothing told so far and has not come as a local of its thread. */
    private static void untoldInTest() {
        String[] signs = {"==", "!=", "<", ">"};
        for (String sign : signs) {
            String told = "field f;lock k;thread u{q=1;}thread t{r=f;";
            fault(3, told + "check @q" + sign + "r;}");
            fault(3, told + "check r" + sign + "@q;}");
            fault(3, told + "check @q" + sign + "q;}");
            fault(3, told + "if @q" + sign + "1{}}");
            fault(3, told + "if 1" + sign + "@q{}}");
            fault(3, told + "while @q" + sign + "r{}}");
            fault(3, told + "while r" + sign + "@q{}}");
            sound(4, told + "q=1;check q" + sign + "r;}");
        }
        fault(3, "thread t{check @r>1;}");
        fault(3, "thread t{if 1<@r{}r=1;}");
        fault(3, "thread t{r=1;}thread v{check @r>1;}");
        // a thread's NAME is not told before its 'thread', though a step may mean it
        fault(3, "thread t{check @u>1;}thread u{}");
        fault(3, "thread t{start u;check @u>1;}thread u{}");
        // no local is made by a test: three others are not one too many
        fault(3, "thread t{p=q+r;check @s<1;}");
        fault(3, "thread t{check @q;}");
        fault(3, "thread t{check @q?1;}");
        fault(2, "thread t{check @all<1;}");
        fault(1, "thread t{check @abcdefg<1;}");
    }

    private static void tooMany() {
        fault(4, FIELDS6 + "field @g;");
        fault(4, FIELDS6 + "open @g=1;");
        fault(4, LOCKS4 + "lock @o;");
        fault(4, "thread a{}thread b{}thread c{}thread d{}thread @e{}");
        fault(4, "thread t{p=1;q=1;r=1;@s=1;}");
        fault(4, "thread t{p=q+r;p=@s;}");
        fault(4, "thread t{p=q;p=r+@s;}");
        fault(4, "thread t{p=q-r;@s;}");
        fault(4, "field f;thread t{p=q-r;f=@s;}");
        fault(4, "thread t{" + times(6, "span{}") + "@span{}}");
        fault(4, "thread t{" + times(6, "span{}") + "}thread u{@span{}}");
        fault(2, "thread t{" + times(5, "span{}") + "span{@span{}}}");
        fault(4, "thread t{" + times(7, "if 1<2{") + "if 1<2@{");
        fault(4, "thread t{" + times(7, "while 1<2{") + "span@{");
        fault(4, "lock k;thread t{" + times(7, "lock k{") + "lock k@{");
        fault(4, "thread t{" + times(6, "if 1<2{") + "if 1<2{}else{if 1<2@{");
        fault(2, "thread t{" + times(7, "if 1<2{") + "if 1<2@;");
    }

    private static void tooManySteps() {
        String full = "field f;lock k;thread t{" + times(24, "stop;");
        String[] begins = {"r=1;", "f=1;", "r=f;", "lock k{}", "if 1<2{}", "while 1<2{}", "wait k;", "wake k;",
            "wake all k;", "start t;", "join t;", "check 1<2;", "stop;"};
        for (String begin : begins) {
            sound(24, full + "}");
            fault(4, full + "@" + begin + "}");
        }
        fault(4, full + "@lock zz{}}");
        fault(4, full + "@check zz<1;}");
        fault(4, full + "@r;}");
        fault(2, full + "@k=1;}");
        fault(2, full + "@t=1;}");
        sound(24, full + "span{}}");
        sound(48, full + "}thread u{" + times(24, "stop;") + "}");
        sound(24, "lock k;thread t{" + times(12, "lock k{}") + "}");
        fault(4, "lock k;thread t{stop;" + times(11, "lock k{}") + "lock k{@}}");
        fault(4, "lock k;thread t{lock k{" + times(23, "stop;") + "@}}");
        fault(4, "lock k;thread t{lock k{" + times(23, "stop;") + "@stop;}}");
    }

    private static void untold() {
        fault(5, "thread t{start @u;}");
        fault(5, "thread t{join @u;}");
        fault(5, "thread t{start t;join @u;start v;}thread w{start u;}");
        fault(5, "thread t{start v;}thread v{join @u;start w;}");
        fault(5, "thread t{r=1;start @r;}");
        fault(2, "thread t{start u;}@}");
        fault(3, "thread t{start u;lock @k{}}");
    }

    private static void firstFromTheLeft() {
        fault(2, "field @7;field a;field a;?");
        fault(3, "field a;field @a?");
        fault(1, "field a;field @?;field a;");
        fault(4, FIELDS6 + "field @g?");
        fault(1, "thread t{stop@?");
        fault(2, "thread t{stop;@");
        fault(4, "thread t{p=q+r;@s=1;stop?");
    }

    private static void sound() {
        sound(0, "");
        sound(0, " \n \n");
        sound(0, "field a;");
        sound(0, "field abcdef = 7 ;open\nz9;lock k;lock l;field b ; thread a1{}");
        sound(0, FIELDS6 + LOCKS4 + "thread o{}thread p{}thread q{}thread r{}");
        sound(1, "thread t{stop;}");
        sound(2, "thread\nt {\n r = 1 + 2 ; check r != 3 ; } \n");
        sound(3, "thread t{p=q-r;p=q+r;p=p;}");
        sound(2, "thread t{r=s;check s<r;}");
        sound(1, "thread t{start u;}thread u{}");
        sound(1, "thread t{join t;}");
        // what is a local here may be a thread's NAME elsewhere
        sound(1, "thread t{u=1;}thread u{}");
        sound(2, "thread t{u=1;start u;}thread u{}");
        sound(2, "thread t{start u;u=1;}thread u{}");
        sound(7, "thread t{" + times(7, "if 1<2{") + times(7, "}") + "}");
        sound(6, "thread t{" + times(6, "if 1<2{") + "span{" + times(7, "}") + "}");
        sound(8, "thread t{" + times(6, "if 1<2{") + "if 1<2{}else{}while 1<2{}" + times(6, "}") + "}");
        sound(0, "thread t{" + times(3, "span{}") + "}thread u{" + times(3, "span{}") + "}");
        sound(3, "field all1;lock if1;thread fieldx{r=all1;lock if1{}}");
        sound(1, "thread t{if 0==0{}else{}}");
    }
}
