import java.lang.reflect.Constructor;
import java.lang.reflect.Field;
import java.lang.reflect.Method;
import java.lang.reflect.Modifier;
import java.util.Arrays;
import java.util.HashMap;
import java.util.List;
import java.util.Map;
import java.util.Random;
import java.util.TreeSet;
import java.util.stream.Collectors;

/**
 * What the document says beside its boundary cases, from its first line to its last: one test for each sentence that the
 * seven tests of boundary cases do not have.
 */
public final class PlainTest {
    private static final String FACE = "public final class ShareHouse { public static final int NONE = -1; "
        + "public ShareHouse(int parties, int width); public void feed(int a, int b, int c, int d, int e); "
        + "public int end(int n); public int compile(); public int look(int what); public int gate(int g, int what); "
        + "public int literal(int k, int j); public long input(int w, int what); public boolean give(int w, int v); "
        + "public void seed(int s); public int draws(long bits, int n); public boolean deal(); "
        + "public int message(int k, int what); public int deliver(int k); public int rush(int n, int by); "
        + "public int party(int p, int what); public int dealt(int p, int g, int what); public int share(int p, int wire); "
        + "public int view(int p, int i); public long told(int p, int k); public long truth(int k); }";
    private static final String INTS = "input x of 0:int;input y of 1:int;";
    private static final int[] WIDTHS = {1, 2, 3, 4, 5, 8, 13, 16, 31, 32};

    public static void main(String[] args) {
        Edges edges = new Edges("PlainTest", args);
        whole(edges);
        language(edges);
        formulas(edges);
        statements(edges);
        parties(edges);
        promises(edges);
        edges.end();
    }

    private static void whole(Edges edges) {
        edges.of("nothingElse", "Parties reckon together what none of them could alone, and learn nothing but the outcome",
            PlainTest::nothingElse);
        edges.of("whateverOrder", "a program in a small language is read, checked, unrolled and made into a circuit of XORs and "
            + "ANDs; a dealer cuts bits into shares; the parties work through the circuit level by level, by messages that come in "
            + "whatever order; at the end each of them has what the program says.", PlainTest::whateverOrder);
        edges.of("face", FACE, PlainTest::face);
        edges.of("none", "The constants: `NONE = -1`: None.", PlainTest::none);
        edges.of("numbered", "N PARTIES 0 .. N - 1; WORDS of W bits, bit 0 the lowest.", PlainTest::numbered);
    }

    private static void language(Edges edges) {
        edges.of("inputs", "ITEM: input NAME of NUMBER : TYPE ; |", PlainTest::inputs);
        edges.of("outputs", "| output EXPR ; | STATEMENT. STATEMENT:", PlainTest::outputs);
        edges.of("assignments", "| NAME = EXPR ; | NAME [ EXPR ] = EXPR ; |", PlainTest::assignments);
        edges.of("loops", "| for NAME = EXPR to EXPR BLOCK.", PlainTest::loops);
        edges.of("sorts", "SORT: int | bit.", PlainTest::sorts);
        edges.of("operators", ", CHOICE being operators between FACTORS,", PlainTest::operators);
        edges.of("factors", ", or NUMBER, true, false, NAME, NAME [ EXPR ],", PlainTest::factors);
        edges.of("firstFault", "; the first fault counts (", PlainTest::firstFault);
    }

    private static void formulas(Edges edges) {
        edges.of("turned", "A LITERAL is a wire, perhaps turned (0 for 1), or a CONSTANT 0 or 1.", PlainTest::turned);
        edges.of("goUp", "Bits go up from the lowest;", PlainTest::goUp);
        edges.of("equal", "EQUAL(x, y): all NOT XOR(x_j, y_j), then ALL of them:", e -> drawn(e, "=="));
        edges.of("notEqual", "; != is NOT of that", e -> drawn(e, "!="));
        edges.of("sum", "SUM(x, y, c) of n bits, c being there first:", e -> drawn(e, "+"));
        edges.of("difference", ", c = XOR(c, AND(t, u)). + is SUM(x, y, 0), - SUM(x, NOT y, 1), unary - SUM(0, NOT x, 1).",
            PlainTest::difference);
        edges.of("less", "; c = 1, for each j: u = XOR(NOT y_j, c), t = XOR(x_j, c), c = XOR(c, AND(t, u)); NOT c.",
            e -> drawn(e, "<"));
        edges.of("comparisons", "< is that; <= NOT LESS(y, x), > LESS(y, x), >= NOT LESS(x, y).", e -> drawn(e, "<", "<=", ">", ">="));
        edges.of("products", "*: r_j = AND(x_j, y_0), all;", e -> drawn(e, "*"));
        edges.of("productSums", ", and r_k .. r_W-1 become SUM(r_k .., q, 0).", e -> drawn(e, "*"));
        edges.of("quotients", "/ and %: R is 0; for k = W - 1 .. 0: S is x_k and, above it, R (W + 1 bits); c = 1,",
            e -> drawn(e, "/"));
        edges.of("rests", ", t = XOR(S_j, c), c = XOR(c, AND(t, u)); q_k = c; R_j = MUX(c, d_j, S_j), j = 0 .. W - 1. / is q, % is R.",
            e -> drawn(e, "/", "%"));
    }

    private static void statements(Edges edges) {
        edges.of("element", "Else i is built; the element's bits are CONSTANT 0;", PlainTest::element);
        edges.of("assign", "a[i] = v: i (if not PUBLIC), then v;", PlainTest::assign);
        edges.of("thatElement", "a PUBLIC one (its STEPS and 7 are told ahead of v): that element;", PlainTest::thatElement);
        edges.of("ifOrder", "if: its EXPR, the BLOCK,", PlainTest::ifOrder);
    }

    private static void parties(Edges edges) {
        edges.of("ofParty", "for each bit of the inputs, in order, of party p: the shares of the others are drawn",
            PlainTest::ofParty);
        edges.of("allFirstBits", ": d (e) being the XOR of all parties' first (second) bits.", PlainTest::allFirstBits);
    }

    private static void promises(Edges edges) {
        edges.of("gate", "Of GATE g what 0: 1 an AND, 0 an XOR, 1: LEVEL, 2, 3: its LITERALS: twice the wire, and 1",
            PlainTest::gate);
        edges.of("literal", "Bit j of output k: its LITERAL", PlainTest::literal);
        edges.of("input", "Of the w-th word of inputs what 0: its party", PlainTest::input);
        edges.of("message", "Of message k in flight what 0: from", PlainTest::message);
        edges.of("deliver", "Message k in flight comes to its party: how many", PlainTest::deliver);
        edges.of("party", "Of a party what 0: the round", PlainTest::party);
        edges.of("truth", "Output k, without sign, as the MEANING of the PROGRAM says,", PlainTest::truth);
    }

    // ---- The whole

    /**
     * For each coalition and all draws that there are: whatever the others' inputs are, as long as the outcome is the same
     * the coalition sees each VIEW equally often.
     */
    private static void nothingElse(Edges e) {
        learnsNothing(e, 2, 0, "input a of 0:bit;input b of 1:bit;output a&b;");
        learnsNothing(e, 2, 1, "input a of 0:bit;input b of 1:bit;output a||b;");
        learnsNothing(e, 2, 3, "input a of 0:bit;input b of 1:bit;input c of 0:bit;output a&!b&c;");
        learnsNothing(e, 3, 0, "input a of 0:bit;input b of 1:bit;input c of 2:bit;output a^b^c;");
        learnsNothing(e, 3, 2, "input a of 0:bit;input b of 1:bit;input c of 2:bit;output a&b^c;");
    }

    private static void learnsNothing(Edges e, int n, int by, String text) {
        e.use(n, 1);
        ShareHouse x = e.built(text);
        int words = x.look(5);
        int draws = x.look(7);
        int alike = 0;
        for (int coalition = 1; coalition < (1 << n) - 1; coalition++) {
            Map<String, Map<Long, Integer>> seen = new HashMap<>();
            for (int inputs = 0; inputs < 1 << words; inputs++) {
                StringBuilder known = new StringBuilder();
                for (int w = 0; w < words; w++) {
                    x.give(w, inputs >> w & 1);
                    known.append((coalition >> x.input(w, 0) & 1) == 1 ? inputs >> w & 1 : '-');
                }
                Map<Long, Integer> views = views(x, coalition, n, draws, by);
                known.append(" with outcome ").append(x.told(0, 0));
                Map<Long, Integer> earlier = seen.putIfAbsent(known.toString(), views);
                alike += earlier == null ? 0 : 1;
                e.holds("coalition " + coalition + " knows " + known + " of " + text, earlier == null || earlier.equals(views));
            }
        }
        e.holds("there are inputs that can't be told apart in " + text, alike > 0);
    }

    private static Map<Long, Integer> views(ShareHouse x, int coalition, int n, int draws, int by) {
        Map<Long, Integer> views = new HashMap<>();
        for (int bits = 0; bits < 1 << draws; bits++) {
            x.draws(bits, draws);
            x.deal();
            x.rush(1000, by);
            long joint = 1;
            for (int p = 0; p < n; p++) {
                for (int i = 0; (coalition >> p & 1) == 1 && i < x.party(p, 2); i++) {
                    joint = 2 * joint + x.view(p, i);
                }
            }
            views.merge(joint, 1, Integer::sum);
        }
        return views;
    }

    private static void whateverOrder(Edges e) {
        String text = "input a of 0:int[2];input b of 1:int;input c of 2:bit;def high(x:int,y:int):int=x<y?y:x;"
            + "var s:int=b;for i=0to 1{s=s*a[i]+i;}if(c){s=high(s,a[0]);}else{s=s/a[1];}output s;output s>b||c;";
        e.use(3, 8);
        Random random = new Random(5);
        for (int n = 0; n < 60; n++) {
            byte[] given = new byte[3];
            random.nextBytes(given);
            boolean c = random.nextBoolean();
            byte s = (byte) ((given[2] * given[0]) * given[1] + 1);
            int divisor = given[1] & 255;
            s = c ? s < given[0] ? given[0] : s : (byte) (divisor == 0 ? 255 : (s & 255) / divisor);
            ShareHouse x = e.built(text);
            for (int w = 0; w < 3; w++) {
                x.give(w, given[w]);
            }
            x.give(3, c ? 1 : 0);
            x.deal();
            e.holds("ANDs of more than one LEVEL", x.look(3) > 1);
            while (x.look(9) > 0) {
                x.deliver(random.nextInt(x.look(9)));
            }
            e.same("parties that are DONE", x.look(11), 3);
            for (int p = 0; p < 3; p++) {
                e.same("told(" + p + ", 0)", x.told(p, 0), s & 255);
                e.same("told(" + p + ", 1)", x.told(p, 1), s > given[2] || c ? 1 : 0);
            }
        }
    }

    private static void face(Edges e) {
        Class<?> house = ShareHouse.class;
        e.same("modifiers of the class", house.getModifiers(), Modifier.PUBLIC | Modifier.FINAL);
        e.holds("no package", house.getPackageName().isEmpty());
        e.holds("no class above it", house.getSuperclass() == Object.class && house.getInterfaces().length == 0);
        TreeSet<String> seen = new TreeSet<>();
        for (Method m : house.getDeclaredMethods()) {
            e.holds(m + " is public and no more, or private", m.getModifiers() == Modifier.PUBLIC
                || Modifier.isPrivate(m.getModifiers()));
            if (Modifier.isPublic(m.getModifiers())) {
                seen.add("public " + m.getReturnType() + " " + m.getName() + types(m.getParameterTypes()));
            }
        }
        for (Constructor<?> c : house.getDeclaredConstructors()) {
            e.same(c + " is public", c.getModifiers(), Modifier.PUBLIC);
            seen.add("public ShareHouse" + types(c.getParameterTypes()));
        }
        for (Field f : house.getDeclaredFields()) {
            boolean constant = f.getName().equals("NONE");
            e.holds(f + " is private, or the constant", Modifier.isPrivate(f.getModifiers())
                || constant && f.getType() == int.class
                && f.getModifiers() == (Modifier.PUBLIC | Modifier.STATIC | Modifier.FINAL));
        }
        TreeSet<String> due = Arrays.stream(FACE.split("[{;}]")).map(String::trim).filter(line -> line.endsWith(")"))
            .map(line -> line.replaceAll("(int|long) \\w+([,)])", "$1$2")).collect(Collectors.toCollection(TreeSet::new));
        e.same("members", due.size(), 21);
        e.holds("the face: due " + due + ", seen " + seen, due.equals(seen));
        for (Class<?> inner : house.getDeclaredClasses()) {
            int modifiers = inner.getModifiers();
            e.holds(inner + " is static, not public", Modifier.isStatic(modifiers) && !Modifier.isPublic(modifiers)
                && !Modifier.isProtected(modifiers));
        }
    }

    private static String types(Class<?>[] types) {
        return "(" + Arrays.stream(types).map(Class::getName).collect(Collectors.joining(", ")) + ")";
    }

    private static void none(Edges e) {
        e.same("NONE", ShareHouse.NONE, -1);
        ShareHouse x = e.fresh();
        for (long answer : new long[] {x.end(21), x.look(0), x.look(1), x.look(99), x.gate(0, 0), x.input(0, 0), x.draws(0, 65),
            x.message(0, 0), x.deliver(0), x.rush(-1, 0), x.party(0, 0), x.dealt(0, 0, 0), x.share(0, 0), x.view(0, 0),
            x.told(0, 0), x.truth(0)}) {
            e.same("none", answer, ShareHouse.NONE);
        }
    }

    private static void numbered(Edges e) {
        for (int n = 2; n <= 16; n++) {
            for (int width : new int[] {1, 2, 32}) {
                e.use(n, width);
                int last = n - 1;
                e.sound("input a of 0:int;", "input a of " + last + ":int;");
                e.due(2, "input a of @" + n + ":int;");
                ShareHouse x = e.built("input a of " + last + ":int;output a;output bit(a,0);output bit(a," + (width - 1) + ");");
                x.give(0, 1);
                e.same("the lowest bit of 1", x.truth(1), 1);
                e.same("the highest bit of 1", x.truth(2), width == 1 ? 1 : 0);
                x.give(0, 1 << width - 1);
                e.same("the lowest bit of the highest", x.truth(1), width == 1 ? 1 : 0);
                e.same("the highest bit of the highest", x.truth(2), 1);
                e.same("bits of a word", x.input(0, 1), width);
                e.same("its highest bit is there", x.literal(0, width - 1), 2 * (width - 1));
                e.same("and none above it", x.literal(0, width), -3);
                x.deal();
                e.same("bits of inputs of the last party", x.message(x.look(9) - 1, 0), last);
                for (int p = 0; p < n; p++) {
                    e.same("party " + p + " of " + n, x.party(p, 0), 0);
                }
                e.same("no party " + n, x.party(n, 0), -1);
                e.same("no party below 0", x.party(-1, 0), -1);
            }
        }
    }

    // ---- THE LANGUAGE

    private static void inputs(Edges e) {
        e.sound("input a of 0:int;", "input a of 1:bit;", "input a of 0:int[64];", "input a of 1:bit[1];",
            "output 1;input a of 0:int;var v:int;input b of 0:int;");
        e.due(1, "@of 0:int;", "a @of 0:int;", "input @of 0:int;", "input a @0:int;", "input a of @:int;", "input a of 0 @int;",
            "input a of 0:@;", "input a of 0:int@", "input a of 0:int;@;", "input @0 of 0:int;", "input a of @b:int;",
            "input a of @-1:int;", "input a of @(0):int;", "input a @: int of 0;", "input a@,b of 0:int;", "input a of 0:int@=1;",
            "input a of 0@;", "input a@", "input a of 0:int[2@;", "if(true){@input a of 0:int;}", "for i=0to 1{@input a of 0:int;}");
        e.use(3, 4);
        ShareHouse x = e.built("input a of 2:int[2];input b of 0:bit;");
        e.same("words", x.look(5), 3);
        e.same("party of a[0]", x.input(0, 0), 2);
        e.same("party of a[1]", x.input(1, 0), 2);
        e.same("party of b", x.input(2, 0), 0);
        e.same("bits of a[1]", x.input(1, 1), 4);
        e.same("bits of b", x.input(2, 1), 1);
    }

    private static void outputs(Edges e) {
        e.due(1, "output @;", "output 1@", "output 1 @2;", "@1;", "output 1@,2;", "output @=1;", "output 1;@;", "output int@;",
            "output @output 1;", "if(true){@output 1;}", "if(true){}else{@output 1;}", "for i=0to 1{@output 1;}",
            "if(true){@def f():int=1;}", "@{var a:int;}", "@else{}", "output 1;@}", "@;", "@(1);", "@int a;");
        e.sound("output 1;", "var a:int;", "var a:int;a=1;", "var a:int[2];a[0]=1;", "if(true){}", "for i=0to 1{}",
            "if(true){var a:int;a=1;if(false){}for i=0to 1{}}", "for i=0to 1{var a:int[2];a[i]=1;if(false){}for j=0to i{}}");
        e.outcome("output 7;output true;var a:int=1;output a;a=2;output a;output a+a;", new int[0], 7, 1, 1, 2, 4);
    }

    private static void assignments(Edges e) {
        e.sound("var a:int;a=1;", "var a:int[2];a[0]=1;", "var a:bit[2];a[1]=true;");
        e.due(1, "a@;", "a=@;", "a=1@", "a @1;", "a[@]=1;", "a[0@=1;", "a[0]@;", "a[0] @1;", "a[0]=@;", "a[0]=1@", "a@(1)=2;",
            "a@+1;", "a@==1;", "a[0]@[1]=2;", "@(a)=1;", "a=1;@=1;", "a@:int=1;", "a=b@=1;", "a[0@,1]=1;", "a@,b=1;", "@1=a;",
            "@-a=1;", "a=1 @2;", "a=@{1};");
        e.outcome("var a:int=5;a=a+1;a=a*a;output a;var b:int[3]=a;b[1]=7;b[a-34]=9;output b[0];output b[1];output b[2];",
            new int[0], 36, 36, 7, 9);
    }

    private static void loops(Edges e) {
        e.sound("for i=0to 1{}", "for i=0to 1{for j=i to i+1{}}", "for i=true?0:1 to(1){}");
        e.due(1, "for @=0to 1{}", "for i @0to 1{}", "for i=@to 1{}", "for i=0 @1{}", "for i=0to @{}", "for i=0to 1@",
            "for i=0to 1 @a=1;", "for @1=0to 1{}", "for @(i=0to 1){}", "for i@[0]=0to 1{}", "for i@:int=0to 1{}",
            "for i=0to 1@;", "for i=0@,1{}", "for i=0to 1{@", "for i=0to 1{}@}", "for i=0to 1{}@else{}", "for@", "@to", "for i@==0to 1{}",
            "for @to=0to 1{}");
        e.outcome("var s:int;for i=3to 6{s=s*10+i;}output s;", new int[0], 3456 % 256);
        e.outcome("var s:int;for i=2to 4{for j=i to 4{s=s+i*j;}}output s;", new int[0], 2 * (2 + 3 + 4) + 3 * (3 + 4) + 4 * 4);
    }

    private static void sorts(Edges e) {
        e.sound("var a:int;var b:bit;def f(x:int,y:bit):bit=y;def g(x:bit,y:int):int=y;input c of 0:int;input d of 0:bit;");
        e.due(1, "var a:@of;", "var a:@x;", "var a:@true;", "var a:@1;", "var a:@;", "var a:@ints;", "var a:@Int;",
            "var a:@bits;", "input a of 0:@(int);", "input a of 0:@a;", "def f(x:@x):int=1;", "def f(x:@):int=1;", "def f():@if=1;",
            "def f():@=1;", "def f(x:int@[2]):int=1;", "def f():int@[2]=1;", "var a:int @bit;", "var a:@[2];", "var a@=1;");
        e.due(5, "var a:int=@true;", "var a:bit=@1;", "def f():int=@true;", "def f():bit=@1;",
            "def f(x:bit):bit=x;output f(@1);", "def f(x:int):bit=true;output f(@true);");
    }

    private static void operators(Edges e) {
        String[] ofInts = {"|", "^", "&", "==", "!=", "<", "<=", ">", ">=", "<<", ">>", "+", "-", "*", "/", "%"};
        long[] due = {7, 5, 2, 0, 1, 0, 0, 1, 1, 48, 0, 9, 3, 18, 2, 0};
        for (int i = 0; i < ofInts.length; i++) {
            String sign = ofInts[i];
            e.value("6" + sign + "3", due[i]);
            e.due(1, "output 6" + sign + "@;", "output 6" + sign + "@)", "output 6" + sign + "@" + "*3;", "output 6" + sign + "@,3;",
                "output 6" + sign + "@", "output 6 @6" + sign + "3;");
            e.due(sign.equals("-") ? 0 : 1, "output " + (sign.equals("-") ? "" : "@") + sign + "3;");
        }
        e.value("true||false", 1);
        e.value("true&&false", 0);
        e.due(1, "output true||@;", "output true&&@;", "output @||true;", "output @&&true;", "output 1@=1;", "output 1@!1;",
            "output 1@~1;", "output 1 @true;", "output true @false;", "output 1#\n@", "output 1 @a;", "output a @1;", "output 1@$1;",
            "output 1+@+2;", "output 1@:2;", "output true?1:2@:3;", "output 1@to 2;");
        e.value("1- -1", 2);
        e.value("1+ ~0", 0);
        e.value("2*-3+10", 4);
        e.value("1+2*3-4/2", 5);
        e.value("(1+2)*(3-4/2)", 3);
    }

    private static void factors(Edges e) {
        String ahead = "input x of 0:int;input p of 0:bit;input a of 0:int[2];input b of 0:bit[2];";
        int[] inputs = {9, 1, 3, 4, 0, 1};
        e.outcome(ahead + "output 17;output true;output false;output x;output p;output a[0];output a[1];output b[0];output b[1];",
            inputs, 17, 1, 0, 9, 1, 3, 4, 0, 1);
        e.outcome(ahead + "output -17;output !true;output !false;output ~x;output !p;output -a[1];output !b[1];output --x;"
            + "output ~-x;output !!p;", inputs, 239, 0, 1, 246, 0, 252, 0, 9, 8, 1);
        e.outcome(ahead + "output a[x-8];output a[a[0]-2]*2;output -a[-x+9]+1;output b[int(p)];", inputs, 4, 8, 254, 1);
        e.due(1, "output @;", "output -@;", "output ~@;", "output !@;", "output @of;", "output @to;", "output a[@];", "output a[1@;",
            "output a[1@,2];", "output a @b;", "output a[1]@[2];", "output a[1]@(2);", "output @[1];", "output @{1};", "output 1@[0];",
            "output true@[0];", "output 1@(2);", "output (1)@(2);", "output @$;", "output @?1:2;", "output @else;");
    }

    private static void firstFault(Edges e) {
        String four = "output nowhere;";
        String five = "output !1;";
        String six = "output 1<<s;";
        String[] all = {four, five, six, four, six, five, five, four};
        int[] number = {4, 5, 6, 4, 6, 5, 5, 4};
        int[] place = {7, 7, 10, 7, 10, 7, 7, 7};
        for (int i = 0; i < all.length; i++) {
            String ahead = "input s of 0:int;output s;";
            String rest = String.join("", Arrays.copyOfRange(all, i, all.length));
            e.dueAt(number[i], ahead.length() + place[i], ahead + rest);
        }
        e.due(4, "output @u+v;", "output @u*!1;", "output 1+(@u+(!1));");
        e.due(5, "output @!1+u;", "output 1+(true@*1)+u;", "output (1@+true)+u;");
    }

    // ---- Formulas

    private static void turned(Edges e) {
        e.use(2, 2);
        String text = "input x of 0:int;input p of 1:bit;output x;output ~x;output p;output !p;output true;output false;output 2;";
        ShareHouse x = e.gates(text);
        int[][] due = {{0, 2}, {1, 3}, {4}, {5}, {-1}, {-2}, {-2, -1}};
        for (int k = 0; k < due.length; k++) {
            e.literals(x, k, due[k]);
        }
        e.outcome(text, new int[] {0, 0}, 0, 3, 0, 1, 1, 0, 2);
        e.outcome(text, new int[] {1, 1}, 1, 2, 1, 0, 1, 0, 2);
        e.outcome(text, new int[] {2, 0}, 2, 1, 0, 1, 1, 0, 2);
        e.outcome(text, new int[] {3, 1}, 3, 0, 1, 0, 1, 0, 2);
    }

    private static void goUp(Edges e) {
        for (int width : WIDTHS) {
            e.use(2, width);
            for (String sign : new String[] {"&", "^", "|"}) {
                String[] gates = new String[width];
                int[] literals = new int[width];
                for (int j = 0; j < width; j++) {
                    int x = 2 * j;
                    int y = 2 * (width + j);
                    gates[j] = sign.equals("&") ? "A1 " + x + " " + y
                        : sign.equals("^") ? "X0 " + x + " " + y : "A1 " + (x + 1) + " " + (y + 1);
                    literals[j] = 2 * (2 * width + j) + (sign.equals("|") ? 1 : 0);
                }
                e.literals(e.gates(INTS + "output x" + sign + "y;", gates), 0, literals);
            }
        }
    }

    /** Operators over inputs, over an input and a NUMBER, over one and the same, and over what another one made. */
    private static void drawn(Edges e, String... operators) {
        for (String operator : operators) {
            for (int width : WIDTHS) {
                e.use(2, width);
                Formulas f = new Formulas(2 * width, width);
                check(e, f, "x" + operator + "y", f.of(operator, f.word(0), f.word(width)));
                f = new Formulas(2 * width, width);
                check(e, f, "y" + operator + "x", f.of(operator, f.word(width), f.word(0)));
                f = new Formulas(2 * width, width);
                check(e, f, "x" + operator + "x", f.of(operator, f.word(0), f.word(0)));
                f = new Formulas(2 * width, width);
                check(e, f, "~x" + operator + "y", f.of(operator, f.not(f.word(0)), f.word(width)));
                for (long number : new long[] {0, 1, 5, 6, 4294967295L, 2863311530L}) {
                    f = new Formulas(2 * width, width);
                    check(e, f, "x" + operator + number, f.of(operator, f.word(0), f.constant(number)));
                    f = new Formulas(2 * width, width);
                    check(e, f, number + operator + "y", f.of(operator, f.constant(number), f.word(width)));
                }
                f = new Formulas(2 * width, width);
                int[] sum = f.of("+", f.word(0), f.word(width));
                check(e, f, "(x+y)" + operator + "x", f.of(operator, sum, f.word(0)));
            }
        }
    }

    private static void check(Edges e, Formulas f, String expr, int[] due) {
        e.literals(e.gates(INTS + "output " + expr + ";", f.gates.toArray(new String[0])), 0, due);
    }

    private static void difference(Edges e) {
        drawn(e, "+", "-");
        for (int width : WIDTHS) {
            e.use(2, width);
            Formulas f = new Formulas(2 * width, width);
            check(e, f, "-y", f.sum(f.constant(0), f.not(f.word(width)), Formulas.ONE));
            f = new Formulas(2 * width, width);
            int[] product = f.of("*", f.word(0), f.word(width));
            check(e, f, "-(x*y)", f.sum(f.constant(0), f.not(product), Formulas.ONE));
        }
    }

    // ---- a[i], a[i] = v, if

    private static int[][] elements(Formulas f, int count, int bits, int wire) {
        int[][] a = new int[count][bits];
        for (int k = 0; k < count; k++) {
            for (int j = 0; j < bits; j++) {
                a[k][j] = 2 * (wire + k * bits + j);
            }
        }
        return a;
    }

    private static void element(Edges e) {
        for (int width : new int[] {1, 2, 3, 5, 8}) {
            for (int count : new int[] {1, 2, 3, 4, 5, 9}) {
                for (String sort : new String[] {"int", "bit"}) {
                    e.use(2, width);
                    int bits = sort.equals("int") ? width : 1;
                    Formulas f = new Formulas(2 * width + count * bits, width);
                    int[] i = f.of("+", f.word(0), f.word(width));
                    int[] due = f.element(elements(f, count, bits, 2 * width), i);
                    e.literals(e.gates(INTS + "input a of 1:" + sort + "[" + count + "];output a[x+y];",
                        f.gates.toArray(new String[0])), 0, due);
                }
            }
        }
    }

    private static void assign(Edges e) {
        for (int width : new int[] {1, 2, 3, 5}) {
            for (int count : new int[] {1, 2, 3, 5}) {
                e.use(2, width);
                Formulas f = new Formulas(3 * width, width);
                int[][] a = new int[count][];
                for (int k = 0; k < count; k++) {
                    a[k] = f.word(2 * width);
                }
                int[] i = f.of("+", f.word(0), f.word(width));
                int[] v = f.of("-", f.word(width), f.word(0));
                f.assign(a, i, v);
                StringBuilder text = new StringBuilder(INTS + "input z of 0:int;var a:int[" + count + "]=z;a[x+y]=y-x;");
                for (int k = 0; k < count && (width > 6 || k < 1 << width); k++) {
                    text.append("output a[").append(k).append("];");
                }
                ShareHouse x = e.gates(text.toString(), f.gates.toArray(new String[0]));
                for (int k = 0; k < x.look(6); k++) {
                    e.literals(x, k, a[k]);
                }
            }
        }
    }

    private static void thatElement(Edges e) {
        e.use(2, 2);
        ShareHouse x = e.gates(INTS + "var a:int[3]=x;a[1]=y;a[4-2]=x^y;output a[0];output a[1];output a[2];", "X0 0 4", "X0 2 6");
        e.literals(x, 0, 0, 2);
        e.literals(x, 1, 4, 6);
        e.literals(x, 2, 8, 10);
        x = e.gates(INTS + "var a:int[3];for i=0to 2{a[i]=x<<(i&1);}output a[0];output a[1];output a[2];");
        e.literals(x, 0, 0, 2);
        e.literals(x, 1, -2, 0);
        e.literals(x, 2, 0, 2);
        e.use(2, 8);
        e.due(7, "var a:int[3];a[@3]=1<<9;", "var a:int[3];a[2]=1<<@9;", "var a:int[3];a[@(1+2)]=1<<9;");
    }

    private static void ifOrder(Edges e) {
        String head = "input c of 0:bit;input p of 0:bit;input q of 1:bit;var v:bit;var w:bit;";
        e.gates(head + "if(c^p){v=p&q;w=p^q;}", "X0 0 2", "A1 2 4", "X0 2 4", "A2 6 8", "A1 6 10");
        e.gates(head + "if(c^p){v=p&q;}else{w=p^q;}", "X0 0 2", "A1 2 4", "X0 2 4", "A2 6 8", "A1 6 10", "X1 10 14");
        e.outcome(head + "if(c){v=true;}else{w=true;}if(v){w=p;}output v;output w;", new int[] {1, 1, 0}, 1, 1);
        e.outcome(head + "if(c){v=true;}else{w=true;}if(v){w=p;}output v;output w;", new int[] {0, 0, 0}, 0, 1);
        e.outcome(head + "if(c){v=true;}else{w=true;}if(v){w=p;}output v;output w;", new int[] {1, 0, 0}, 1, 0);
    }

    // ---- The dealer and the parties

    private static void ofParty(Edges e) {
        e.use(4, 3);
        ShareHouse x = e.built("input a of 2:int;input b of 0:bit[2];input c of 3:int;input d of 2:bit;");
        int[] owners = {2, 2, 2, 0, 0, 3, 3, 3, 2};
        int[] bits = {1, 0, 1, 1, 0, 0, 1, 1, 1};
        int[] given = {5, 1, 0, 6, 1};
        for (int w = 0; w < given.length; w++) {
            x.give(w, given[w]);
        }
        x.seed(321);
        x.deal();
        Edges.finish(x);
        int seed = 321;
        for (int wire = 0; wire < owners.length; wire++) {
            int own = bits[wire];
            for (int p = 0; p < 4; p++) {
                if (p != owners[wire]) {
                    seed = seed * 1103515245 + 12345;
                    own ^= seed >> 16 & 1;
                    e.same("share(" + p + ", " + wire + ")", x.share(p, wire), seed >> 16 & 1);
                }
            }
            e.same("share(" + owners[wire] + ", " + wire + ")", x.share(owners[wire], wire), own);
        }
        e.same("SEED", x.look(14), seed);
    }

    private static void allFirstBits(Edges e) {
        for (int n : new int[] {2, 3, 5}) {
            e.use(n, 1);
            for (int s = 0; s < 40; s++) {
                ShareHouse x = e.built("input a of 0:bit;input b of 1:bit;output a&!b;");
                x.give(0, s & 1);
                x.give(1, s >> 1 & 1);
                x.seed(7919 * s);
                x.deal();
                while (x.message(0, 2) == 0) {
                    x.deliver(0);
                }
                int d = 0;
                int second = 0;
                // The first message of each party says what all others get too.
                for (int k = 0; k < x.look(9); k += n - 1) {
                    e.same("round of message " + k, x.message(k, 2), 1);
                    d ^= x.message(k, 4);
                    second ^= x.message(k, 5);
                }
                e.same("messages of round 1", x.look(9), n * (n - 1));
                Edges.finish(x);
                for (int p = 0; p < n; p++) {
                    int due = x.dealt(p, 0, 2) ^ d * x.dealt(p, 0, 1) ^ second * x.dealt(p, 0, 0) ^ (p == 0 ? d * second : 0);
                    e.same("share(" + p + ", 2)", x.share(p, 2), due);
                }
            }
        }
    }

    // ---- Promises

    private static void gate(Edges e) {
        ShareHouse x = e.built("input a of 0:bit;input b of 1:bit;output !a&b^a;");
        int[][] due = {{1, 1, 1, 2}, {0, 1, 4, 0}};
        for (int g = 0; g < due.length; g++) {
            for (int what = 0; what < 4; what++) {
                e.same("gate(" + g + ", " + what + ")", x.gate(g, what), due[g][what]);
            }
        }
    }

    private static void literal(Edges e) {
        e.use(2, 4);
        ShareHouse x = e.built("input a of 0:int;input b of 1:bit;output b;output a;output 5;output ~a;");
        e.literals(x, 0, 8);
        e.literals(x, 1, 0, 2, 4, 6);
        e.literals(x, 2, -1, -2, -1, -2);
        e.literals(x, 3, 1, 3, 5, 7);
    }

    private static void input(Edges e) {
        e.use(5, 6);
        ShareHouse x = e.built("input a of 4:int;input b of 1:bit[2];input c of 3:int[2];");
        int[][] due = {{4, 6, 33}, {1, 1, 0}, {1, 1, 1}, {3, 6, 2}, {3, 6, 63}};
        int[] given = {33, 2, 3, 66, -1};
        for (int w = 0; w < due.length; w++) {
            x.give(w, given[w]);
        }
        for (int w = 0; w < due.length; w++) {
            for (int what = 0; what < 3; what++) {
                e.same("input(" + w + ", " + what + ")", x.input(w, what), due[w][what]);
            }
        }
    }

    private static void message(Edges e) {
        e.use(3, 2);
        ShareHouse x = e.built("input a of 0:int;input b of 2:bit;output a;");
        x.draws(0b101101, 6);
        x.deal();
        // From, to, round, bits; the draws are those of party 1 and 2 of each bit of a, then of 0 and 1 of b.
        int[][] due = {{0, 1, 0, 2, 1, 1}, {0, 2, 0, 2, 0, 1}, {1, 0, 0, 0}, {1, 2, 0, 0}, {2, 0, 0, 1, 0}, {2, 1, 0, 1, 1}};
        e.same("in flight", x.look(9), due.length);
        for (int k = 0; k < due.length; k++) {
            for (int what = 0; what < due[k].length; what++) {
                e.same("message(" + k + ", " + what + ")", x.message(k, what), due[k][what]);
            }
            e.same("no bit more of " + k, x.message(k, due[k].length), -1);
        }
    }

    private static void deliver(Edges e) {
        e.use(3, 1);
        for (int k = 0; k < 6; k++) {
            ShareHouse x = e.built("input a of 0:bit;output a;");
            x.deal();
            int to = x.message(k, 1);
            int from = x.message(k, 0);
            e.same("deliver(" + k + ")", x.deliver(k), 0);
            for (int p = 0; p < 3; p++) {
                e.same("messages that came to " + p, x.party(p, 1), p == to ? 1 : 0);
            }
            e.same("in flight", x.look(9), 5);
            for (int m = 0; m < 5; m++) {
                e.holds("it is in flight no more", x.message(m, 0) != from || x.message(m, 1) != to);
            }
            int other = 3 - from - to;
            for (int m = 0; m < x.look(9); m++) {
                if (x.message(m, 0) == other && x.message(m, 1) == to) {
                    e.same("the last one that it waited for", x.deliver(m), 2);
                }
            }
            e.same("its round", x.party(to, 0), 1);
            e.same("in flight then", x.look(9), 6);
        }
    }

    private static void party(Edges e) {
        e.use(3, 1);
        ShareHouse x = e.built("input a of 0:bit;input b of 1:bit;output a&b;");
        x.deal();
        // The bits of each: 1 and the shares of 2 others, if it has an input, and 3 of the AND.
        int[][] due = {{0, 0, 6}, {0, 0, 6}, {0, 0, 3}};
        for (int p = 0; p < 3; p++) {
            for (int what = 0; what < 3; what++) {
                e.same("party(" + p + ", " + what + ")", x.party(p, what), due[p][what]);
            }
        }
        Edges.finish(x);
        // Of round 0 a bit of each other one that has an input, of round 1 two of each other one, of round 2 one.
        int[][] behind = {{3, 6, 6 + 1 + 4 + 2}, {3, 6, 6 + 1 + 4 + 2}, {3, 6, 3 + 2 + 4 + 2}};
        for (int p = 0; p < 3; p++) {
            for (int what = 0; what < 3; what++) {
                e.same("then party(" + p + ", " + what + ")", x.party(p, what), behind[p][what]);
            }
        }
    }

    private static void truth(Edges e) {
        String text = "input n of 0:int;input d of 1:int;def gcd(a:int,b:int):int=b==0?a:b;var a:int=n;var b:int=d;"
            + "for i=0to 12{var r:int=a%b;if(b!=0){a=b;b=r;}}output a;output n/d;output n-d;output n<d;output gcd(a,0);";
        e.use(2, 8);
        ShareHouse x = e.built(text);
        for (int[] given : List.of(new int[] {12, 18}, new int[] {233, 144}, new int[] {200, 75}, new int[] {0, 7}, new int[] {7, 0},
            new int[] {255, 255}, new int[] {128, 96})) {
            x.give(0, given[0]);
            x.give(1, given[1]);
            int a = given[0];
            int b = given[1];
            while (b != 0) {
                int r = a % b;
                a = b;
                b = r;
            }
            e.same("the greatest divisor of both", x.truth(0), a);
            e.same("n/d", x.truth(1), given[1] == 0 ? 255 : given[0] / given[1]);
            e.same("n-d", x.truth(2), given[0] - given[1] & 255);
            e.same("n<d", x.truth(3), (byte) given[0] < (byte) given[1] ? 1 : 0);
            e.same("gcd(a,0)", x.truth(4), a);
        }
    }
}
