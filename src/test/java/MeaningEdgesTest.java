/** The boundary cases of MEANING: one test for each sentence. */
public final class MeaningEdgesTest {
    private static final int[] WIDTHS = {1, 2, 3, 4, 5, 8, 16, 31, 32};

    public static void main(String[] args) {
        Edges edges = new Edges("MeaningEdgesTest", args);
        edges.of("modulo", "Words are numbers modulo 2^W.", MeaningEdgesTest::modulo);
        edges.of("sums", "+ - * and unary -, & | ^ ~ as ever", MeaningEdgesTest::sums);
        edges.of("quotients", "/ and % and << >> take them without sign", MeaningEdgesTest::quotients);
        edges.of("byZero", "(x / 0 is 2^W - 1, x % 0 is x)", MeaningEdgesTest::byZero);
        edges.of("shifts", "<< >> take them without sign (x / 0", MeaningEdgesTest::shifts);
        edges.of("compared", "< <= > >= with sign", MeaningEdgesTest::compared);
        edges.of("equal", "== != of two of one SORT", MeaningEdgesTest::equal);
        edges.of("bitOf", "bit(x, k) is bit k of x.", MeaningEdgesTest::bitOf);
        edges.of("allOfTheirs", "? : , && and || work out all of theirs.", MeaningEdgesTest::allOfTheirs);
        edges.of("noElement", "a[i], i without sign: 0 (or false) if there is no such element", MeaningEdgesTest::noElement);
        edges.of("assignedToNone", "and an assignment to none does nothing", MeaningEdgesTest::assignedToNone);
        edges.of("defAnew", "A def is worked out anew for each call.", MeaningEdgesTest::defAnew);
        edges.of("turns", "for: the NAME is each of the numbers from the first to the second bound (without sign)",
            MeaningEdgesTest::turns);
        edges.of("noTurn", "none if the first is greater", MeaningEdgesTest::noTurn);
        edges.of("zeroAgain", "vars without = are 0, each time they come in", MeaningEdgesTest::zeroAgain);
        edges.of("eachElement", "(of an ARRAY each element is what = says)", MeaningEdgesTest::eachElement);
        edges.end();
    }

    private static long mask(int width) {
        return (1L << width) - 1;
    }

    /** The ends of the numbers with and without sign, and what lies beside them. */
    private static long[] ends(int width) {
        long half = 1L << (width - 1);
        return new long[] {0, 1 & mask(width), 2 & mask(width), half - 1, half, half + 1 & mask(width), mask(width) - 1,
            mask(width), 5 & mask(width), 0x55555555L & mask(width)};
    }

    private static long signed(long x, int width) {
        return x << 64 - width >> 64 - width;
    }

    private interface Meaning {
        long of(long x, long y, int width);
    }

    /** Of two inputs, of an input and a NUMBER, of two NUMBERs: they must all mean the same. */
    private static void both(Edges e, String op, Meaning meaning) {
        for (int width : WIDTHS) {
            e.use(2, width);
            String heads = "input x of 0:int;input y of 1:int;";
            ShareHouse house = e.built(heads + "output x" + op + "y;");
            for (long x : ends(width)) {
                for (long y : ends(width)) {
                    long due = meaning.of(x, y, width);
                    String told = x + op + y + " of width " + width;
                    house.give(0, (int) x);
                    house.give(1, (int) y);
                    house.deal();
                    e.same("truth of " + told, house.truth(0), due);
                    Edges.finish(house);
                    e.same("told of " + told, house.told(1, 0), due);
                }
            }
            for (long x : ends(width)) {
                mixed(e, house, op, meaning, x, width);
            }
        }
    }

    private static void mixed(Edges e, ShareHouse house, String op, Meaning meaning, long x, int width) {
        for (long y : ends(width)) {
            e.same("compile", Check.compile(house, "input x of 0:int;output x" + op + y + ";output " + y + op + "x;output "
                + x + op + y + ";"), 0);
            house.give(0, (int) x);
            e.same("x" + op + y + " of " + x + ", width " + width, house.truth(0), meaning.of(x, y, width));
            e.same(y + op + "x of " + x + ", width " + width, house.truth(1), meaning.of(y, x, width));
            e.same(x + op + y + ", width " + width, house.truth(2), meaning.of(x, y, width));
        }
    }

    private static void modulo(Edges e) {
        for (int width : WIDTHS) {
            e.use(2, width);
            long m = mask(width);
            for (long number : new long[] {0, 1, 255, 256, 65535, 65536, 2147483647L, 2147483648L, 4294967294L,
                4294967295L}) {
                e.value(Long.toString(number), number & m);
            }
            e.outcome("input x of 0:int;output x;", new int[] {-1}, m);
            e.outcome("input x of 0:int;output x+1;output x*x;output -x;", new int[] {-1}, 0, 1, 1);
            e.value("0-1", m);
            e.value("-1", m);
            e.value("4294967295+1", 0);
        }
    }

    private static void sums(Edges e) {
        both(e, "+", (x, y, w) -> x + y & mask(w));
        both(e, "-", (x, y, w) -> x - y & mask(w));
        both(e, "*", (x, y, w) -> x * y & mask(w));
        both(e, "&", (x, y, w) -> x & y);
        both(e, "|", (x, y, w) -> x | y);
        both(e, "^", (x, y, w) -> x ^ y);
        for (int width : WIDTHS) {
            e.use(2, width);
            for (long x : ends(width)) {
                e.outcome("input x of 0:int;output -x;output ~x;output -" + x + ";output ~" + x + ";", new int[] {(int) x},
                    -x & mask(width), ~x & mask(width), -x & mask(width), ~x & mask(width));
            }
        }
    }

    private static void quotients(Edges e) {
        both(e, "/", (x, y, w) -> y == 0 ? mask(w) : x / y);
        both(e, "%", (x, y, w) -> y == 0 ? x : x % y);
    }

    private static void byZero(Edges e) {
        for (int width : WIDTHS) {
            e.use(2, width);
            for (long x : ends(width)) {
                e.outcome("input x of 0:int;input y of 1:int;output x/y;output x%y;output x/0;output x%0;output " + x + "/0;"
                    + "output " + x + "%0;output " + x + "/y;output " + x + "%y;", new int[] {(int) x, 0}, mask(width), x,
                    mask(width), x, mask(width), x, mask(width), x);
            }
        }
    }

    private static void shifts(Edges e) {
        for (int width : WIDTHS) {
            e.use(2, width);
            for (int by : new int[] {0, 1, width / 2, width - 2, width - 1}) {
                if (by < 0 || by >= width) {
                    continue;
                }
                for (long x : ends(width)) {
                    e.outcome("input x of 0:int;output x<<" + by + ";output x>>" + by + ";output " + x + "<<" + by
                        + ";output " + x + ">>" + by + ";", new int[] {(int) x}, x << by & mask(width), x >>> by,
                        x << by & mask(width), x >>> by);
                }
            }
        }
    }

    private static void compared(Edges e) {
        both(e, "<", (x, y, w) -> signed(x, w) < signed(y, w) ? 1 : 0);
        both(e, "<=", (x, y, w) -> signed(x, w) <= signed(y, w) ? 1 : 0);
        both(e, ">", (x, y, w) -> signed(x, w) > signed(y, w) ? 1 : 0);
        both(e, ">=", (x, y, w) -> signed(x, w) >= signed(y, w) ? 1 : 0);
    }

    private static void equal(Edges e) {
        both(e, "==", (x, y, w) -> x == y ? 1 : 0);
        both(e, "!=", (x, y, w) -> x == y ? 0 : 1);
        for (int x = 0; x < 2; x++) {
            for (int y = 0; y < 2; y++) {
                e.outcome("input x of 0:bit;input y of 1:bit;output x==y;output x!=y;output x&&y;output x||y;output x&y;"
                    + "output x|y;output x^y;output !x;", new int[] {x, y}, x == y ? 1 : 0, x ^ y, x & y, x | y, x & y, x | y,
                    x ^ y, 1 - x);
            }
        }
    }

    private static void bitOf(Edges e) {
        for (int width : WIDTHS) {
            e.use(2, width);
            for (int k : new int[] {0, width / 2, width - 1}) {
                for (long x : ends(width)) {
                    e.outcome("input x of 0:int;output bit(x," + k + ");output bit(" + x + "," + k + ");output int(bit(x,"
                        + k + "));", new int[] {(int) x}, x >> k & 1, x >> k & 1, x >> k & 1);
                }
            }
        }
    }

    private static void allOfTheirs(Edges e) {
        // So that what is wrong in either one is told, and its STEPS and GATES count.
        e.due(7, "output true?1:1<<@8;", "output false?1<<@8:1;", "output false&&bit(1,@8);", "output true||bit(1,@8);",
            "input p of 0:bit;output p?1:1<<@8;");
        e.same("STEPS", e.built("output true?1:(2);").look(8), 5);
        e.same("STEPS", e.built("output false&&true;").look(8), 3);
        e.same("STEPS", e.built("output true||(false);").look(8), 4);
        String inputs = "input p of 0:bit;input q of 1:bit;";
        e.same("GATES", e.built(inputs + "output false&&(p&q);").look(1), 1);
        e.same("GATES", e.built(inputs + "output true||(p&q);").look(1), 1);
        e.same("GATES", e.built(inputs + "output true?p&q:p^q;").look(1), 4);
        e.outcome("input x of 0:int;output x==0?7:8/x;output x!=0&&8/x>1;", new int[] {0}, 7, 0);
    }

    private static void noElement(Edges e) {
        for (int width : new int[] {1, 2, 3, 4, 7, 32}) {
            e.use(2, width);
            for (int size : new int[] {1, 2, 3, 4, 5, 7, 8, 9, 64}) {
                StringBuilder text = new StringBuilder("input i of 0:int;var a:int[" + size + "];var b:bit[" + size + "]=true;");
                for (int k = 0; k < size && k <= mask(width); k++) {
                    text.append("a[").append(k).append("]=~").append(k).append(";");
                }
                ShareHouse house = e.built(text + "output a[i];output b[i];");
                for (long i : new long[] {0, 1, size - 1, size, size + 1, mask(width), 1L << (width - 1)}) {
                    if (i > mask(width)) {
                        continue;
                    }
                    house.give(0, (int) i);
                    house.deal();
                    Edges.finish(house);
                    long due = i < size ? ~i & mask(width) : 0;
                    String told = "a[" + i + "] of " + size + ", width " + width;
                    e.same("truth of " + told, house.truth(0), due);
                    e.same("told of " + told, house.told(0, 0), due);
                    e.same("truth of a bit of " + told, house.truth(1), i < size ? 1 : 0);
                }
            }
        }
    }

    private static void assignedToNone(Edges e) {
        for (int width : new int[] {1, 2, 3, 8, 32}) {
            e.use(2, width);
            for (int size : new int[] {1, 2, 3, 5}) {
                StringBuilder text = new StringBuilder("input i of 0:int;var a:int[" + size + "]=1;var b:bit[" + size
                    + "];a[i]=0;b[i]=true;");
                int last = (int) Math.min(size - 1, mask(width));
                for (int k = 0; k <= last; k++) {
                    text.append("output a[").append(k).append("];output b[").append(k).append("];");
                }
                ShareHouse house = e.built(text.toString());
                for (long i : new long[] {0, size - 1, size, size + 1, mask(width), 1L << (width - 1)}) {
                    house.give(0, (int) i);
                    for (int k = 0; k <= last && i <= mask(width); k++) {
                        e.same("a[" + k + "] behind a[" + i + "]=0", house.truth(2 * k), k == i ? 0 : 1);
                        e.same("b[" + k + "] behind b[" + i + "]=true", house.truth(2 * k + 1), k == i ? 1 : 0);
                    }
                }
            }
        }
    }

    private static void defAnew(Edges e) {
        String inputs = "input p of 0:bit;input q of 1:bit;";
        String def = "def f(x:bit,y:bit):bit=x&y;";
        e.same("GATES of none", e.built(inputs + def).look(1), 0);
        e.same("GATES of one", e.built(inputs + def + "output f(p,q);").look(1), 1);
        e.same("GATES of two", e.built(inputs + def + "output f(p,q);output f(p,q);").look(1), 2);
        e.same("STEPS of none", e.built(def).look(8), 0);
        e.same("STEPS of two", e.built(inputs + def + "output f(p,q);output f(p,q);").look(8), 12);
        e.outcome("def f(x:int):int=x+1;def g(x:int,y:int):int=f(y)-f(x);output g(f(1),g(f(f(2)),9));", new int[0], 3);
        // None that is never called is worked out.
        e.sound("def f(x:int):int=x<<8;");
        e.due(7, "def f(x:int):int=x<<@8;output f(1);");
    }

    private static void turns(Edges e) {
        for (int width : WIDTHS) {
            e.use(2, width);
            long last = mask(width);
            String sum = "var n:int;var s:int;";
            e.outcome(sum + "for i=" + last + " to " + last + "{n=n+1;s=s+i;}output n;output s;", new int[0], 1, last);
            e.outcome(sum + "for i=0to 0{n=n+1;s=i;}output n;output s;", new int[0], 1, 0);
            e.outcome(sum + "for i=" + (last - 1) + " to " + last + "{n=n+1;s=i;}output n;output s;", new int[0],
                2 & last, last);
            e.outcome(sum + "for i=0to 1{n=n+1;s=s+i;}output n;output s;", new int[0], 2 & last, 1);
            if (width > 1) {
                long half = 1L << (width - 1);
                // Without sign: half is greater than half - 1, though it is below 0 with sign.
                e.outcome(sum + "for i=" + (half - 1) + " to " + half + "{n=n+1;s=i;}output n;output s;", new int[0],
                    2 & last, half);
            }
        }
        e.use(2, 8);
        e.outcome("var n:int;var s:int;for i=0to 255{n=n+1;s=s^i*3;}output n;", new int[0], 0);
        e.outcome("var n:int;for i=300to 301{n=n*50+i;}output n;", new int[0], 44 * 50 + 45 & 255);
        e.outcome("var n:int;for i=3to 5{n=n*6+i;}output n;", new int[0], (3 * 6 + 4) * 6 + 5);
    }

    private static void noTurn(Edges e) {
        for (int width : WIDTHS) {
            e.use(2, width);
            e.outcome("var n:int;for i=1to 0{n=1;}output n;", new int[0], 0);
            e.outcome("var n:int;for i=" + mask(width) + " to 0{n=1;}output n;", new int[0], 0);
            e.outcome("var n:int;for i=-1to 0{n=1;}output n;", new int[0], 0);
        }
        // Its BLOCK is not built then, nor are its STEPS.
        e.use(2, 8);
        e.same("STEPS", e.built("var n:int;for i=1to 0{n=1<<8;}").look(8), 4);
        e.same("STEPS", e.built("var n:int;for i=256to 255{n=1;}").look(8), 1 + 3 + 256 * 2);
        e.outcome("var n:int;for i=5to 4{n=1;}for i=5to 260{n=2;}output n;", new int[0], 0);
    }

    private static void zeroAgain(Edges e) {
        e.outcome("var s:int;for i=1to 3{var n:int;var p:bit;var a:int[2];n=n+i;s=s*4+n+a[1];a[1]=9;"
            + "if(p){s=0;}p=true;}output s;", new int[0], (1 * 4 + 2) * 4 + 3);
        e.outcome("var n:int;var p:bit;var a:int[2];var b:bit[2];output n;output p;output a[0];output a[1];output b[1];",
            new int[0], 0, 0, 0, 0, 0);
        e.outcome("var s:int;for i=1to 2{if(true){var n:int;s=s*8+n;n=5;}else{var n:int=7;s=9;}}output s;", new int[0], 0);
        // Of an earlier PROGRAM nothing is left either.
        ShareHouse x = e.built("var a:int[64]=255;var b:bit[64]=true;output a[0];");
        e.same("compile", Check.compile(x, "var a:int[64];var b:int[64];output a[63];output b[0];output b[63];"), 0);
        for (int k = 0; k < 3; k++) {
            e.same("truth(" + k + ")", x.truth(k), 0);
        }
    }

    private static void eachElement(Edges e) {
        StringBuilder text = new StringBuilder("input x of 0:int;var a:int[64]=x+1;var b:bit[3]=x==4;var s:int;");
        text.append("for i=0to 63{s=s+a[i];}output s;output a[0];output a[63];output b[0];output b[1];output b[2];");
        e.outcome(text.toString(), new int[] {4}, 64 * 5 & 255, 5, 5, 1, 1, 1);
        e.outcome("var a:int[1]=7;output a[0];", new int[0], 7);
        // What = says is built once.
        e.same("GATES", e.built("input p of 0:bit;input q of 1:bit;var a:bit[64]=p&q;").look(1), 1);
        e.outcome("var s:int;for i=1to 2{var a:int[2]=i;s=s*4+a[0]+a[1];a[0]=50;}output s;", new int[0], 12);
    }
}
