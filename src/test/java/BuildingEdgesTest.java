import java.util.ArrayList;
import java.util.List;

/** The boundary cases of BUILDING, FAULTS 7 and 8: one test for each sentence. */
public final class BuildingEdgesTest {
    private static final int MOST_STEPS = 100_000;
    private static final int MOST_GATES = 40_000;

    public static void main(String[] args) {
        Edges edges = new Edges("BuildingEdgesTest", args);
        edges.of("firstOne", "BUILDING has FAULTS, the first one", BuildingEdgesTest::firstOne);
        edges.of("firstByte", "7 (at the first byte of the EXPR; of numbers modulo 2^W)", BuildingEdgesTest::firstByte);
        edges.of("moduloNumbers", "of numbers modulo 2^W) a PUBLIC index", BuildingEdgesTest::moduloNumbers);
        edges.of("index", "a PUBLIC index that is not below the size", BuildingEdgesTest::index);
        edges.of("shift", "a shift or number of a bit not below W", BuildingEdgesTest::shift);
        edges.of("numberOfBit", "number of a bit not below W", BuildingEdgesTest::numberOfBit);
        edges.of("turns", "(at the for) a loop of more than 256 turns", BuildingEdgesTest::turns);
        edges.of("aheadOfV", "a PUBLIC one (its STEPS and 7 are told ahead of v)", BuildingEdgesTest::aheadOfV);
        edges.of("gates", "the 40,001st GATE", BuildingEdgesTest::gates);
        edges.of("levels", "one of LEVEL 2,001", BuildingEdgesTest::levels);
        edges.of("steps", "the 100,001st STEP", BuildingEdgesTest::steps);
        edges.of("asItBegins", "as it begins to be built", BuildingEdgesTest::asItBegins);
        edges.of("innermost", "8 (at the first byte of the innermost ITEM or STATEMENT that is built, itself as it begins",
            BuildingEdgesTest::innermost);
        edges.of("behindBlocks", "an if for what comes behind its BLOCKs", BuildingEdgesTest::behindBlocks);
        edges.of("ofTheCall", "a def's is that of the call", BuildingEdgesTest::ofTheCall);
        edges.end();
    }

    // ---- FAULT 7

    private static void firstOne(Edges e) {
        String vars = "var n:int;var a:int[3];";
        e.due(7, vars + "output a[@3]+a[4];", vars + "output 1<<@8<<9;", vars + "output (1<<@8)+a[9];",
            vars + "output 1<<@8;output 1<<9;", vars + "if(true){n=a[@7];}else{n=a[8];}", vars + "if(1<<@8==1){n=a[8];}",
            vars + "a[@3]=1<<8;", vars + "a[n]=1<<@8;", vars + "a[n+(1<<@8)]=1<<9;", vars + "for i=1<<@8to 1<<9{}",
            vars + "output true?1<<@8:1<<9;", vars + "output bit(1<<@8,9);", vars + "n=1<<@8;for i=0to 3{n=a[i];}");
        // In the order of building: a def when it is called, a BLOCK turn by turn.
        e.due(7, "def f():int=1<<8;output 2<<@9;output f();", "def f():int=1<<@8;output f();output 2<<9;",
            "def f(x:int):int=x<<8;output f(1<<@9);", vars + "for i=0to 9{a[@i]=i;n=1<<(i/8*8);}",
            vars + "for i=0to 9{n=1<<@i*4;a[i]=i;}");
    }

    private static void firstByte(Edges e) {
        String vars = "var n:int;var a:int[3];var q:bit[3];input c of 0:int[3];";
        e.due(7, vars + "output a[@3];", vars + "output a[ @1+2];", vars + "output a[@(3)];", vars + "output a[\n\t@-1];",
            vars + "output a[@true?3:1];", vars + "output 1<<@8;", vars + "output 1<< @8;", vars + "output 1<<@(8);",
            vars + "output 1<<@4+4;", vars + "output 1<<@4*2+1;", vars + "output 1>>#\n@9;", vars + "output 1<<1<<@8<<1;",
            vars + "output bit(n,@8);", vars + "output bit(n, @4+4);", vars + "a[@3]=1;", vars + "a[ @1+2]=1;",
            vars + "q[@3]=true;", vars + "output c[@3];", vars + "output q[@(1+2)];", vars + "for i=3to 3{n=a[@i];}",
            vars + "output 1<<@int(true)*8;", vars + "output 1<<@-1;");
    }

    private static void moduloNumbers(Edges e) {
        e.sound("output 1<<256;", "output 1>>256+7;", "output bit(1,256);", "output bit(1,263);",
            "var a:int[3];output a[256];a[258]=1;", "output 1<<255+1;", "for i=256to 511{}", "for i=0to 256{}", "for i=0to 300{}",
            "var a:int[1];for i=512to 512{a[i]=1;}");
        e.due(7, "output 1<<@264;", "output bit(1,@264);", "var a:int[3];output a[@259];", "output 1<<@0-1;",
            "var a:int[64];output a[@-1];", "output 1>>@255;", "output 1<<@4294967295;");
        e.outcome("output 1<<257;output bit(2,257);var a:int[3];a[258]=7;output a[2];", new int[0], 2, 1, 7);
        e.use(2, 1);
        e.sound("output 1<<2;", "output bit(1,4294967294);", "var a:int[1];output a[2];", "var a:int[2];output a[3];");
        e.due(7, "output 1<<@3;", "output bit(1,@4294967295);", "var a:int[1];output a[@3];");
        e.use(2, 32);
        e.due(7, "output 1<<@4294967295;", "var a:int[64];output a[@4294967295];", "output bit(1,@2147483648);",
            "var a:int[64];output a[@2147483648];", "output 1>>@2147483648;");
    }

    private static void index(Edges e) {
        for (int size : new int[] {1, 2, 3, 31, 63, 64}) {
            for (String head : new String[] {"var a:int[%];", "var a:bit[%];", "input a of 0:int[%];", "input a of 1:bit[%];"}) {
                String text = head.replace("%", "" + size);
                e.sound(text + "output a[" + (size - 1) + "];output a[0];");
                e.due(7, text + "output a[@" + size + "];", text + "output a[@" + (size + 1) + "];", text + "output a[@255];");
            }
            e.sound("var a:int[" + size + "];a[" + (size - 1) + "]=1;");
            e.due(7, "var a:int[" + size + "];a[@" + size + "]=1;", "var a:bit[" + size + "];a[@255]=true;");
        }
        // One that is not PUBLIC may be what it likes.
        e.sound("var n:int=200;var a:int[3];output a[n];a[n]=1;output a[n-n+3];");
    }

    private static void shift(Edges e) {
        for (int width = 1; width <= 32; width++) {
            e.use(2, width);
            e.sound("output 1<<" + (width - 1) + ";output 1>>" + (width - 1) + ";output 1<<0;");
            e.due(7, "output 1<<@" + width + ";", "output 1>>@" + width + ";", "input x of 0:int;output x<<@" + width + ";",
                "input x of 0:int;output x>>@" + (width == 1 ? 1 : width + 1) + ";", "output 1<<@~0;", "output 1>>@-1;");
        }
    }

    private static void numberOfBit(Edges e) {
        for (int width = 1; width <= 32; width++) {
            e.use(2, width);
            e.sound("output bit(1," + (width - 1) + ");output bit(1,0);");
            e.due(7, "output bit(1,@" + width + ");", "input x of 0:int;output bit(x,@" + width + ");", "output bit(1,@~0);");
        }
    }

    private static void turns(Edges e) {
        e.sound("for i=0to 255{}", "for i=255to 255{}", "for i=255to 0{}");
        e.use(2, 9);
        e.sound("for i=0to 255{}", "for i=256to 511{}", "for i=1to 256{}", "for i=511to 0{}", "for i=512to 255{}");
        e.due(7, "@for i=0to 256{}", "@for i=255to 511{}", "@for i=0to 511{}", "@for i=0to-1{}", " @for i=(0)to(300){}",
            "var n:int;if(true){@for i=0to 256{n=1<<20;}}", "for j=0to 3{@for i=j to 258{}}");
        e.due(7, "for j=0to 3{for i=j to 255{}@for i=0to 256{}}");
        e.use(2, 32);
        e.sound("for i=4294967040to 4294967295{}", "for i=4294967295to 0{}", "for i=2147483500to 2147483755{}");
        e.due(7, "@for i=4294967039to 4294967295{}", "@for i=0to 4294967295{}", "@for i=0to 2147483648{}",
            "@for i=2147483500to 2147483756{}");
        e.same("STEPS of 256 turns", e.built("for i=0to 255{var a:int;}").look(8), 3 + 256);
    }

    // ---- FAULT 8: what fills up but for so many, and what comes behind it

    /** A text of 100,000 STEPS but for some, x being a bit. */
    private static String stepsBut(int left) {
        int rest = 412 - left;
        String odd = rest % 2 == 0 ? "" : "x=(x);";
        return "var x:bit;for i=0to 255{for j=0to 192{x=x;}}" + odd + "x=x;".repeat((rest - (odd.isEmpty() ? 0 : 3)) / 2);
    }

    /** A text of 40,000 GATES but for some, at most 32; p and q are bits of inputs, v is a var. */
    private static String gatesBut(int left) {
        return "input a of 0:int;input b of 1:int;input p of 0:bit;input q of 1:bit;var c:int;var d:bit;var v:bit=q;"
            + "for i=0to 248{for j=0to 4{c=a&b;}}" + "c=a&b;".repeat(4) + "d=p&q;".repeat(32 - left);
    }

    /** As many LEVELS as there can be: q has the highest, p and r none. */
    private static final String LEVELS = "input p of 0:bit;input r of 1:bit;var q:bit=p;var v:bit=r;"
        + "for i=0to 249{for j=0to 7{q=!(q&&r);}}";

    private static final List<Integer> PLACES = new ArrayList<>();

    /** The text without its marks, whose places are noted. */
    private static String unmarked(String text) {
        PLACES.clear();
        StringBuilder plain = new StringBuilder();
        for (char c : text.toCharArray()) {
            if (c == '@') {
                PLACES.add(plain.length());
            } else {
                plain.append(c);
            }
        }
        return plain.toString();
    }

    private interface Filler {
        String but(int left);
    }

    /** Each of them that a text takes is told at the mark that is due, if there was no room for it. */
    private static void each(Edges e, Filler filler, String ahead, String marked, int... marks) {
        String text = unmarked(marked);
        for (int left = 0; left < marks.length; left++) {
            String all = ahead + filler.but(left) + text;
            e.dueAt(8, all.length() - text.length() + PLACES.get(marks[left]), all);
        }
        e.sound(ahead + filler.but(marks.length) + text);
    }

    private static void steps(Edges e) {
        ShareHouse x = e.built(stepsBut(0));
        e.same("STEPS", x.look(8), MOST_STEPS);
        e.same("STEPS", e.built(stepsBut(1)).look(8), MOST_STEPS - 1);
        e.same("STEPS", e.built(stepsBut(2) + "output x;").look(8), MOST_STEPS);
        e.due(8, stepsBut(0) + "@var z:int;", stepsBut(1) + "@x=x;", stepsBut(0) + "@x=x;", stepsBut(1) + "@output x;");
        // Inputs, defs and BLOCKs that are not built have none.
        e.sound(stepsBut(0) + "input z of 0:int;def f(z:int):int=z+(1);", stepsBut(3) + "for i=1to 0{x=x;}");
        e.due(8, "for i=0to 255{for j=0to 255{@var z:bit=true;}}");
    }

    private static void asItBegins(Edges e) {
        // The last STEP that there is room for goes ahead of what is told of the EXPR behind it.
        e.use(2, 8);
        e.due(7, stepsBut(3) + "output 1<<@8;", stepsBut(4) + "output bit(1,@8);", "input a of 0:int[3];" + stepsBut(3)
            + "output a[@3];");
        e.due(8, stepsBut(2) + "@output 1<<8;", stepsBut(3) + "@output bit(1,8);", "input a of 0:int[3];" + stepsBut(2)
            + "@output a[3];", stepsBut(3) + "@output 1+(1<<8);");
        e.use(2, 9);
        e.due(7, stepsBut(3) + "@for k=0to 300{}");
        e.due(8, stepsBut(2) + "@for k=0to 300{}");
        // A ( and a call have theirs ahead of what is in them.
        e.use(2, 8);
        e.due(7, stepsBut(4) + "output (1<<@8);", "def f(z:int):int=z;" + stepsBut(4) + "output f(1<<@8);");
        e.due(8, stepsBut(3) + "@output (1<<8);", "def f(z:int):int=z;" + stepsBut(3) + "@output f(1<<8);");
    }

    private static void aheadOfV(Edges e) {
        // The var ahead takes a STEP of those that are left.
        e.due(7, "var a:int[3];" + stepsBut(3) + "a[@3]=1;", "var a:int[3];" + stepsBut(4) + "a[@(3)]=1<<8;");
        e.due(8, "var a:int[3];" + stepsBut(2) + "@a[3]=1;", "var a:int[3];" + stepsBut(3) + "@a[2]=1;",
            "var a:int[3];" + stepsBut(3) + "@a[(3)]=1;");
        e.sound("var a:int[3];" + stepsBut(4) + "a[2]=1;");
        e.use(2, 32);
        e.due(7, "var h:bit[3];" + gatesBut(0) + "h[@3]=p&q;");
        e.due(8, "var h:bit[3];" + gatesBut(0) + "@h[2]=p&q;");
    }

    private static void innermost(Edges e) {
        each(e, BuildingEdgesTest::stepsBut, "", "@x=x;", 0, 0);
        each(e, BuildingEdgesTest::stepsBut, "", "@x=!(x);", 0, 0, 0);
        each(e, BuildingEdgesTest::stepsBut, "", " @output  x; @output (x);", 0, 0, 1, 1, 1);
        each(e, BuildingEdgesTest::stepsBut, "", "@var z:bit;@var y:int=1+2;@y=-y;", 0, 1, 1, 1, 2, 2);
        each(e, BuildingEdgesTest::stepsBut, "", "@for k=0to 1{@x=x;}@x=true;", 0, 0, 0, 1, 1, 1, 1, 2, 2);
        each(e, BuildingEdgesTest::stepsBut, "", "@for k=0to 1{@for l=0to 0{@x=x;}}", 0, 0, 0, 1, 1, 1, 2, 2, 1, 1, 1, 2, 2);
        each(e, BuildingEdgesTest::stepsBut, "", "@if(x){@x=x;}else @if((x)){@x=x;}else{@var z:int;}", 0, 0, 1, 1, 2, 2, 2, 3, 3,
            4);
        each(e, BuildingEdgesTest::stepsBut, "", "@var a:int[2];@a[0]=a[1];", 0, 1, 1, 1, 1);
        each(e, BuildingEdgesTest::stepsBut, "", "@x=true?x:bit(int(x),1);", 0, 0, 0, 0, 0, 0, 0);
        each(e, BuildingEdgesTest::stepsBut, "", "input z of 0:int;def f():int=1+2;@output f();", 0, 0, 0, 0);
        e.use(2, 32);
        each(e, BuildingEdgesTest::gatesBut, "", "@output p&q;@output p^q;", 0, 1);
        each(e, BuildingEdgesTest::gatesBut, "", "@v=p&q^p;@var z:bit=p|q;", 0, 0, 1);
        each(e, BuildingEdgesTest::gatesBut, "", "@for k=0to 1{@v=p&q;@v=v^p;}@v=v&q;", 1, 2, 1, 2, 3);
    }

    private static void behindBlocks(Edges e) {
        e.use(2, 32);
        // The condition, the BLOCK, then XOR, AND, XOR of v.
        each(e, BuildingEdgesTest::gatesBut, "", "@if(p&q){@v=p^q;}@v=v&p;", 0, 1, 0, 0, 0, 2);
        each(e, BuildingEdgesTest::gatesBut, "", "@if(p){@v=p&q;}else @if(q){@v=p^q;}else{@v=q&p;}", 1, 3, 4, 2, 2, 2, 0, 0, 0);
        each(e, BuildingEdgesTest::gatesBut, "", "@if(p){@if(q^p){@v=p;}}", 1, 1, 1, 1, 0, 0, 0);
        each(e, BuildingEdgesTest::gatesBut, "", "@if(p){@for k=0to 0{@v=p&q;}}", 2, 0, 0, 0);
        e.use(2, 8);
        e.due(8, LEVELS + "@if(q){v=p;}", LEVELS + "if(p){}else @if(q){v=p;}", LEVELS + "if(p){@if(q){v=p;}}",
            LEVELS + "@if(q){v=p;}else{v=r;}", LEVELS + "@if(p){v=q;}");
        e.sound(LEVELS + "if(q){}", LEVELS + "if(q){v=r;}", LEVELS + "if(true){v=q;}");
    }

    private static void ofTheCall(Edges e) {
        String defs = "def f(y:bit):bit=y&&y;def g(y:bit):bit=f(!y);";
        each(e, BuildingEdgesTest::stepsBut, defs, "@x=f(x);", 0, 0, 0, 0, 0);
        each(e, BuildingEdgesTest::stepsBut, defs, "@if(x){@x=g(f(x));}", 0, 0, 1, 1, 1, 1, 1, 1, 1, 1, 1, 1);
        e.use(2, 32);
        String and = "def f(y:bit,z:bit):bit=y&z^y;";
        each(e, BuildingEdgesTest::gatesBut, and, "@output f(p,q);@v=f(q,p);", 0, 0, 1, 1);
        e.use(2, 8);
        e.due(8, and + LEVELS + "@output f(q,p);", and + LEVELS + "if(true){@v=f(q,p);}");
    }

    private static void gates(Edges e) {
        e.use(2, 32);
        e.same("GATES", e.built(gatesBut(0)).look(1), MOST_GATES);
        e.same("GATES", e.built(gatesBut(1) + "output p^q;").look(1), MOST_GATES);
        ShareHouse x = e.built(gatesBut(1) + "output q&p;output p;");
        e.same("GATES", x.look(1), MOST_GATES);
        e.same("the last one", x.gate(MOST_GATES - 1, 2), 2 * 65);
        e.same("none behind it", x.gate(MOST_GATES, 0), -1);
        e.literals(x, 0, 2 * (66 + MOST_GATES - 1));
        // And they are dealt and worked through, up to the last one.
        e.outcome(gatesBut(2) + "output p&q;output p^q;output d;output c;", new int[] {-1, 0x12345678, 1, 1}, 1, 0, 1, 0x12345678);
        e.outcome(gatesBut(2) + "output p&q;output p^q;output d;output c;", new int[] {7, -2, 1, 0}, 0, 1, 0, 6);
        fullDeal(e);
        e.due(8, gatesBut(0) + "@output p^q;", gatesBut(0) + "@output p&q;", gatesBut(1) + "output p^q;@output p^q;");
        // What makes no GATE has room still.
        e.sound(gatesBut(0) + "output !p;output p&p;output p^p;output p&true;output a<<1;output bit(a,3);output v?p:p;");
        e.due(8, gatesBut(31) + "@output a+b;", gatesBut(31) + "@c=a&b;");
        e.sound(gatesBut(32) + "c=a&b;", gatesBut(32) + "output a^b;");
    }

    /** As many bits of inputs and as many ANDs as there can be, all of these of one LEVEL. */
    private static void fullDeal(Edges e) {
        String text = "input a of 0:int[64];input b of 1:int[64];input c of 0:int[64];input d of 1:int[64];var v:int;"
            + "for i=0to 249{for j=0to 4{v=a[0]&d[63];}}output v;output a[63]^a[63];output d[63];";
        int[] inputs = new int[256];
        inputs[0] = 0x7654FEDC;
        inputs[255] = 0xFFFF0F0F;
        ShareHouse x = e.outcome(text, inputs, 0x76540E0CL, 0, 0xFFFF0F0FL);
        e.same("ANDs", x.look(2), MOST_GATES);
        e.same("bits of inputs", x.look(4), 8192);
        e.same("DRAWS", x.look(7), 8192 + 5 * MOST_GATES);
        e.holds("share of the last wire", x.share(1, 8192 + MOST_GATES - 1) >= 0);
        e.same("no wire behind it", x.share(1, 8192 + MOST_GATES), -1);
        x.deal();
        x.rush(2, 0);
        message(e, x, 1, MOST_GATES, MOST_GATES - 1);
        for (int what = 0; what < 3; what++) {
            e.same("the last of what is dealt", x.view(1, 2 * 4096 + 3 * (MOST_GATES - 1) + what),
                x.dealt(1, MOST_GATES - 1, what));
        }
    }

    /** The last two bits that both messages in flight have, of a round with so many ANDs: those of this GATE. */
    private static void message(Edges e, ShareHouse x, int round, int ands, int gate) {
        for (int k = 0; k < 2; k++) {
            int from = x.message(k, 0);
            e.same("round", x.message(k, 2), round);
            e.same("bits of round " + round, x.message(k, 3), 2 * ands);
            for (int which = 0; which < 2; which++) {
                int literal = x.gate(gate, 2 + which);
                int due = x.share(from, literal / 2) ^ (from == 0 ? literal & 1 : 0) ^ x.dealt(from, gate, which);
                e.same("bit of round " + round + " from " + from, x.message(k, 4 + 2 * ands - 2 + which), due);
            }
            e.same("no bit more", x.message(k, 4 + 2 * ands), -1);
        }
    }

    private static void levels(Edges e) {
        e.same("D", e.built(LEVELS).look(3), 2000);
        e.same("D", e.built(LEVELS + "output q;output q^p;").look(3), 2000);
        e.due(8, LEVELS + "@output q&&p;", LEVELS + "@output p||q;", LEVELS + "@output p&(q^r);", LEVELS + "@v=q&p;",
            LEVELS + "@var z:bit=q&&r;", LEVELS + "for k=0to 0{@v=q&&p;}", LEVELS + "@output q?p:r;", LEVELS + "@if(q&&p){}");
        e.sound(LEVELS + "output q&true;output q&q;output q&!q;output q^r;output p&r;output p?q:q;");
        e.same("D", e.built("output 1;").look(3), 0);
        // And the parties come through as many.
        ShareHouse x = e.outcome(LEVELS + "output q;output q^r;", new int[] {1, 1}, 1, 0);
        e.same("messages that came", x.look(10), 2 * 2002);
        e.same("messages that came to party 1", x.party(1, 1), 2002);
        e.same("bits of a VIEW", x.party(0, 2), 1 + 1 + 3 * 2000 + 1 + 2 * 2000 + 2);
        x.deal();
        x.rush(2 * 2000, 0);
        message(e, x, 2000, 1, 1999);
        e.outcome(LEVELS + "output q;output q^r;", new int[] {0, 1}, 0, 1);
        e.same("D", e.built("input p of 0:bit;input q of 1:bit;output p^q;").look(3), 0);
    }
}
