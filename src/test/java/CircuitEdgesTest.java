/** The boundary cases of THE CIRCUIT, of what is built and how, and of STEPS: one test for each sentence. */
public final class CircuitEdgesTest {
    private static final String BITS = "input p of 0:bit;input q of 1:bit;";
    private static final String INTS = "input x of 0:int;input y of 1:int;";

    public static void main(String[] args) {
        Edges edges = new Edges("CircuitEdgesTest", args);
        gates(edges);
        words(edges);
        statements(edges);
        steps(edges);
        edges.end();
    }

    private static void gates(Edges edges) {
        edges.of("wires", "WIRES: 0 .. I - 1 the bits of inputs, as they come in the text, element by element, bit by bit (of "
            + "a bit one); wire I + g is GATE g.", CircuitEdgesTest::wires);
        edges.of("level", "LEVEL: of inputs and CONSTANTs 0, of an XOR that of the higher of its two, of an AND one more than "
            + "that.", CircuitEdgesTest::level);
        edges.of("xorConstant", "XOR of two LITERALS: of a CONSTANT and another one that one, turned if it is 1 (two "
            + "CONSTANTs: a CONSTANT)", CircuitEdgesTest::xorConstant);
        edges.of("xorOfOne", "of two of one wire a CONSTANT", CircuitEdgesTest::xorOfOne);
        edges.of("xorGate", "else a new GATE of the two wires, turned if just one of them is.", CircuitEdgesTest::xorGate);
        edges.of("andConstant", "AND: with a CONSTANT 0 that, with 1 the other one", CircuitEdgesTest::andConstant);
        edges.of("andOfOne", "of two of one wire: the same one, or CONSTANT 0 if one is turned", CircuitEdgesTest::andOfOne);
        edges.of("andGate", "else a new GATE of the two LITERALS.", CircuitEdgesTest::andGate);
        edges.of("or", "OR(x, y): NOT AND(NOT x, NOT y).", CircuitEdgesTest::or);
        edges.of("mux", "MUX(c, x, y): XOR(y, AND(c, XOR(x, y))), the innermost first.", CircuitEdgesTest::mux);
        edges.of("firstAhead", "of EXPRs the first is built ahead of the second, then what is between.",
            CircuitEdgesTest::firstAhead);
    }

    private static void words(Edges edges) {
        edges.of("bitByBit", "& | ^ ~ ! and MUX are bit by bit, && || as & |", CircuitEdgesTest::bitByBit);
        edges.of("noGates", "shifts, int, bit have no gates (int has 0 above, << and >> bring 0).", CircuitEdgesTest::noGates);
        edges.of("lastAlone", "as long as there are two or more, neighbours are made one by AND, two by two from the first on, "
            + "a last one alone stays", CircuitEdgesTest::lastAlone);
        edges.of("equalBits", "(== of bits likewise, of one)", CircuitEdgesTest::equalBits);
        edges.of("sum", "for each j u = XOR(y_j, c), s_j = XOR(x_j, u), and but for the last one t = XOR(x_j, c)",
            CircuitEdgesTest::sum);
        edges.of("less", "LESS(x, y): x and y with their highest bits turned", CircuitEdgesTest::less);
        edges.of("times", "then for k = 1 .. W - 1: q_j = AND(x_j, y_k), j = 0 .. W - 1 - k, all", CircuitEdgesTest::times);
        edges.of("divide", "for j = 0 .. W: u = XOR(NOT y_j, c) (y_W being 0), d_j = XOR(S_j, u) (but for j = W)",
            CircuitEdgesTest::divide);
        edges.of("known", "(two CONSTANTs: a CONSTANT)", CircuitEdgesTest::known);
    }

    private static void statements(Edges edges) {
        edges.of("publicIndex", "a[i]: an index that is PUBLIC is the element.", CircuitEdgesTest::publicIndex);
        edges.of("readElement", "for k = 0, 1, ..: e = EQUAL(i, k) (CONSTANT 0 if k is not below 2^W), for each bit: XOR(bit, "
            + "AND(e, that of a[k])).", CircuitEdgesTest::readElement);
        edges.of("storeElement", "else for k = 0, 1, ..: e as above, for each bit MUX(e, that of v, that of a[k]).",
            CircuitEdgesTest::storeElement);
        edges.of("ifAlone", "the one of else (none: they stay)", CircuitEdgesTest::ifAlone);
        edges.of("ifElse", "then, from the vars as they were ahead of it, the one of else", CircuitEdgesTest::ifElse);
        edges.of("ifVars", "then for all vars that are visible ahead of the if, as they come in the text, element by element, "
            + "bit by bit: MUX(condition, behind the first, behind the second).", CircuitEdgesTest::ifVars);
    }

    private static void steps(Edges edges) {
        edges.of("factorSteps", "STEPS: each FACTOR but those with - ~ !", CircuitEdgesTest::factorSteps);
        edges.of("statementSteps", "and each STATEMENT (an if behind else, too) and output", CircuitEdgesTest::statementSteps);
        edges.of("turnSteps", "(the head of a for once, its BLOCK's each turn", CircuitEdgesTest::turnSteps);
        edges.of("publicSteps", "of a PUBLIC EXPR the STEPS are counted as of others)", CircuitEdgesTest::publicSteps);
    }

    // ---- GATES

    private static void wires(Edges e) {
        e.use(3, 3);
        ShareHouse x = e.built("output 1;input a of 2:int[2];input p of 0:bit[2];var v:int;input b of 1:int;input q of 2:bit;"
            + "output a[0];output a[1];output p[0];output p[1];output b;output q;output q&&p[0];output bit(b,2)&&p[1];");
        e.same("bits of inputs", x.look(4), 12);
        e.literals(x, 0, -1, -2, -2);
        e.literals(x, 1, 0, 2, 4);
        e.literals(x, 2, 6, 8, 10);
        e.literals(x, 3, 12);
        e.literals(x, 4, 14);
        e.literals(x, 5, 16, 18, 20);
        e.literals(x, 6, 22);
        e.literals(x, 7, 24);
        e.literals(x, 8, 26);
        e.same("gate(1, 2)", x.gate(1, 2), 20);
        e.same("gate(1, 3)", x.gate(1, 3), 14);
        e.same("no bits of inputs", e.built("output 1;").look(4), 0);
    }

    private static void level(Edges e) {
        e.gates(BITS + "output 1;");
        e.gates(BITS + "output p^q^p;", "X0 0 2", "X0 4 0");
        e.gates(BITS + "output p&q;", "A1 0 2");
        e.gates(BITS + "output (p&q)^p;", "A1 0 2", "X1 4 0");
        e.gates(BITS + "output p^(p&q);", "A1 0 2", "X1 0 4");
        e.gates(BITS + "output (p&q)&p;", "A1 0 2", "A2 4 0");
        e.gates(BITS + "output p&((p&q)^q);", "A1 0 2", "X1 4 2", "A2 0 6");
        e.gates(BITS + "output ((p&q)&p)^(p&q);", "A1 0 2", "A2 4 0", "A1 0 2", "X2 6 8");
    }

    private static void literal(Edges e, String expr, int due) {
        ShareHouse x = e.gates(BITS + "output " + expr + ";");
        e.literals(x, 0, due);
    }

    private static void xorConstant(Edges e) {
        literal(e, "p^true", 1);
        literal(e, "true^p", 1);
        literal(e, "p^false", 0);
        literal(e, "false^p", 0);
        literal(e, "!q^true", 2);
        literal(e, "true^!q", 2);
        literal(e, "!q^false", 3);
        literal(e, "true^true", -2);
        literal(e, "true^false", -1);
        literal(e, "false^true", -1);
        literal(e, "false^false", -2);
    }

    private static void xorOfOne(Edges e) {
        literal(e, "p^p", -2);
        literal(e, "p^!p", -1);
        literal(e, "!p^p", -1);
        literal(e, "!q^!q", -2);
        e.literals(e.gates(BITS + "var r:bit=p^q;output r^r;output r^!r;", "X0 0 2"), 1, -1);
    }

    private static void xorGate(Edges e) {
        String[] exprs = {"p^q", "!p^q", "p^!q", "!p^!q"};
        int[] due = {4, 5, 5, 4};
        for (int i = 0; i < exprs.length; i++) {
            e.literals(e.gates(BITS + "output " + exprs[i] + ";", "X0 0 2"), 0, due[i]);
        }
        e.literals(e.gates(BITS + "output q^p;", "X0 2 0"), 0, 4);
        // Each time a new one.
        ShareHouse x = e.gates(BITS + "output p^q;output p^q;", "X0 0 2", "X0 0 2");
        e.literals(x, 0, 4);
        e.literals(x, 1, 6);
    }

    private static void andConstant(Edges e) {
        literal(e, "p&false", -2);
        literal(e, "false&p", -2);
        literal(e, "p&true", 0);
        literal(e, "true&p", 0);
        literal(e, "!p&true", 1);
        literal(e, "true&!q", 3);
        literal(e, "!p&false", -2);
        literal(e, "true&true", -1);
        literal(e, "true&false", -2);
        literal(e, "false&true", -2);
        literal(e, "false&false", -2);
    }

    private static void andOfOne(Edges e) {
        literal(e, "p&p", 0);
        literal(e, "!p&!p", 1);
        literal(e, "p&!p", -2);
        literal(e, "!q&q", -2);
        literal(e, "q&&q", 2);
    }

    private static void andGate(Edges e) {
        e.literals(e.gates(BITS + "output p&q;", "A1 0 2"), 0, 4);
        e.literals(e.gates(BITS + "output !p&q;", "A1 1 2"), 0, 4);
        e.literals(e.gates(BITS + "output p&!q;", "A1 0 3"), 0, 4);
        e.literals(e.gates(BITS + "output !p&!q;", "A1 1 3"), 0, 4);
        e.literals(e.gates(BITS + "output !(q&!p);", "A1 2 1"), 0, 5);
        e.gates(BITS + "output p&q;output p&&q;", "A1 0 2", "A1 0 2");
    }

    private static void or(Edges e) {
        e.literals(e.gates(BITS + "output p|q;", "A1 1 3"), 0, 5);
        e.literals(e.gates(BITS + "output !p||q;", "A1 0 3"), 0, 5);
        literal(e, "p|p", 0);
        literal(e, "p|!p", -1);
        literal(e, "p|true", -1);
        literal(e, "true||p", -1);
        literal(e, "p|false", 0);
        literal(e, "false||!q", 3);
        literal(e, "false|false", -2);
    }

    private static void mux(Edges e) {
        String three = "input c of 0:bit;input p of 0:bit;input q of 1:bit;";
        e.literals(e.gates(three + "output c?p:q;", "X0 2 4", "A1 0 6", "X1 4 8"), 0, 10);
        e.literals(e.gates(three + "output !c?!p:q;", "X0 2 4", "A1 1 7", "X1 4 8"), 0, 10);
        e.literals(e.gates(three + "output c?p:!q;", "X0 2 4", "A1 0 7", "X1 4 8"), 0, 11);
        e.literals(e.gates(three + "output true?p:q;", "X0 2 4", "X0 4 6"), 0, 8);
        e.literals(e.gates(three + "output false?p:q;", "X0 2 4"), 0, 4);
        e.literals(e.gates(three + "output c?p:p;"), 0, 2);
        e.literals(e.gates(three + "output c?true:false;"), 0, 0);
        e.literals(e.gates(three + "output c?false:true;"), 0, 1);
        e.literals(e.gates(three + "output c?p:!p;", "X0 2 0"), 0, 7);
        e.literals(e.gates(three + "output c?p:false;", "A1 0 2"), 0, 6);
        e.literals(e.gates(three + "output c?false:p;", "A1 0 2", "X1 2 6"), 0, 8);
        e.literals(e.gates(three + "output c?true:p;", "A1 0 3", "X1 2 6"), 0, 8);
    }

    private static void firstAhead(Edges e) {
        e.gates(BITS + "output (p&q)^(q&p);", "A1 0 2", "A1 2 0", "X1 4 6");
        e.gates(BITS + "output (p^q)&&(q&p);", "X0 0 2", "A1 2 0", "A2 4 6");
        e.gates(BITS + "output (p&q)?(q&p):(p^q);", "A1 0 2", "A1 2 0", "X0 0 2", "X1 6 8", "A2 4 10", "X2 8 12");
        e.gates(BITS + "def f(a:bit,b:bit):bit=b^a;output f(p&q,q&p);", "A1 0 2", "A1 2 0", "X1 6 4");
        e.gates(BITS + "output p&q&!p;", "A1 0 2", "A2 4 1");
    }

    // ---- Words

    private static void bitByBit(Edges e) {
        e.use(2, 2);
        e.literals(e.gates(INTS + "output x&y;", "A1 0 4", "A1 2 6"), 0, 8, 10);
        e.literals(e.gates(INTS + "output x|y;", "A1 1 5", "A1 3 7"), 0, 9, 11);
        e.literals(e.gates(INTS + "output x^y;", "X0 0 4", "X0 2 6"), 0, 8, 10);
        e.literals(e.gates(INTS + "output ~x;"), 0, 1, 3);
        e.literals(e.gates(INTS + "output x^1;"), 0, 1, 2);
        e.literals(e.gates(INTS + "output x&2;"), 0, -2, 2);
        e.literals(e.gates(INTS + "output bit(x,0)?x:y;", "X0 0 4", "A1 0 8", "X1 4 10", "X0 2 6", "A1 0 14", "X1 6 16"), 0,
            12, 18);
        e.literals(e.gates(BITS + "output p&&q;output p||q;output !p;", "A1 0 2", "A1 1 3"), 1, 7);
    }

    private static void noGates(Edges e) {
        e.use(2, 3);
        ShareHouse x = e.gates("input x of 0:int;input p of 1:bit;output x<<0;output x<<1;output x<<2;output x>>0;output x>>1;"
            + "output x>>2;output int(p);output int(!p);output bit(x,0);output bit(x,2);output ~x<<2;output ~x>>2;");
        int[][] due = {{0, 2, 4}, {-2, 0, 2}, {-2, -2, 0}, {0, 2, 4}, {2, 4, -2}, {4, -2, -2}, {6, -2, -2}, {7, -2, -2}, {0},
            {4}, {-2, -2, 1}, {5, -2, -2}};
        for (int k = 0; k < due.length; k++) {
            e.literals(x, k, due[k]);
        }
        x = e.gates("input x of 0:int;input p of 1:bit;output x;output int(p);output ~x;output int(!p);output int(bit(x,1));");
        e.literals(x, 1, 6, -2, -2);
        e.literals(x, 3, 7, -2, -2);
        e.literals(x, 4, 2, -2, -2);
        e.use(2, 1);
        x = e.gates("input x of 0:int;input p of 1:bit;output int(p);output x<<0;output x>>0;output bit(x,0);");
        e.literals(x, 0, 2);
        e.literals(x, 1, 0);
        e.literals(x, 2, 0);
        e.literals(x, 3, 0);
    }

    private static void lastAlone(Edges e) {
        e.use(2, 1);
        e.literals(e.gates(INTS + "output x==y;", "X0 0 2"), 0, 5);
        e.literals(e.gates(INTS + "output x!=y;", "X0 0 2"), 0, 4);
        e.use(2, 2);
        e.literals(e.gates(INTS + "output x==y;", "X0 0 4", "X0 2 6", "A1 9 11"), 0, 12);
        e.literals(e.gates(INTS + "output x!=y;", "X0 0 4", "X0 2 6", "A1 9 11"), 0, 13);
        e.literals(e.gates(INTS + "output x==3;", "A1 0 2"), 0, 8);
        e.literals(e.gates(INTS + "output 0==x;", "A1 1 3"), 0, 8);
        e.use(2, 3);
        e.literals(e.gates(INTS + "output x==y;", "X0 0 6", "X0 2 8", "X0 4 10", "A1 13 15", "A2 18 17"), 0, 20);
        e.use(2, 5);
        e.literals(e.gates(INTS + "output x==y;", "X0 0 10", "X0 2 12", "X0 4 14", "X0 6 16", "X0 8 18", "A1 21 23", "A1 25 27",
            "A2 30 32", "A3 34 29"), 0, 36);
        for (int width = 1; width <= 32; width++) {
            e.use(2, width);
            ShareHouse x = e.built("input x of 0:int;output x==0;");
            e.same("GATES of width " + width, x.look(1), width - 1);
            e.same("D of width " + width, x.look(3), 32 - Integer.numberOfLeadingZeros(width - 1));
        }
    }

    private static void equalBits(Edges e) {
        e.literals(e.gates(BITS + "output p==q;", "X0 0 2"), 0, 5);
        e.literals(e.gates(BITS + "output p!=q;", "X0 0 2"), 0, 4);
        literal(e, "p==p", -1);
        literal(e, "p!=p", -2);
        literal(e, "p==true", 0);
        literal(e, "false==p", 1);
        literal(e, "true==false", -2);
    }

    private static void sum(Edges e) {
        e.use(2, 1);
        e.literals(e.gates(INTS + "output x+y;", "X0 0 2"), 0, 4);
        e.literals(e.gates(INTS + "output x-y;", "X0 0 2"), 0, 4);
        e.literals(e.gates(INTS + "output -x;"), 0, 0);
        e.use(2, 2);
        e.literals(e.gates(INTS + "output x+y;", "X0 0 4", "A1 0 4", "X1 6 10", "X1 2 12"), 0, 8, 14);
        e.literals(e.gates(INTS + "output x-y;", "X0 0 4", "A1 1 4", "X1 6 10", "X1 2 12"), 0, 8, 14);
        e.literals(e.gates("input x of 0:int;output -x;", "X0 2 0"), 0, 0, 4);
        e.literals(e.gates("input x of 0:int;output x+1;", "X0 2 0"), 0, 1, 4);
        e.use(2, 3);
        e.literals(e.gates(INTS + "output x+y;", "X0 0 6", "A1 0 6", "X1 8 14", "X1 2 16", "X1 2 14", "A2 20 16", "X2 14 22",
            "X2 10 24", "X2 4 26"), 0, 12, 18, 28);
    }

    private static void less(Edges e) {
        e.use(2, 1);
        e.literals(e.gates(INTS + "output x<y;", "A1 0 3"), 0, 4);
        e.literals(e.gates(INTS + "output x<=y;", "A1 2 1"), 0, 5);
        e.literals(e.gates(INTS + "output x>y;", "A1 2 1"), 0, 4);
        e.literals(e.gates(INTS + "output x>=y;", "A1 0 3"), 0, 5);
        e.use(2, 2);
        e.literals(e.gates(INTS + "output x<y;", "A1 1 4", "X1 6 8", "X1 2 8", "A2 12 11", "X2 8 14"), 0, 16);
        e.literals(e.gates(INTS + "output x>=y;", "A1 1 4", "X1 6 8", "X1 2 8", "A2 12 11", "X2 8 14"), 0, 17);
        e.literals(e.gates(INTS + "output x>y;", "A1 5 0", "X1 2 8", "X1 6 8", "A2 12 11", "X2 8 14"), 0, 16);
        e.literals(e.gates(INTS + "output x<=y;", "A1 5 0", "X1 2 8", "X1 6 8", "A2 12 11", "X2 8 14"), 0, 17);
        e.literals(e.gates("input x of 0:int;output x<x;"), 0, -2);
        e.literals(e.gates("input x of 0:int;output x<=x;"), 0, -1);
    }

    private static void times(Edges e) {
        e.use(2, 1);
        e.literals(e.gates(INTS + "output x*y;", "A1 0 2"), 0, 4);
        e.use(2, 2);
        e.literals(e.gates(INTS + "output x*y;", "A1 0 4", "A1 2 4", "A1 0 6", "X1 10 12"), 0, 8, 14);
        e.literals(e.gates("input x of 0:int;output x*1;"), 0, 0, 2);
        e.literals(e.gates("input x of 0:int;output 1*x;"), 0, 0, 2);
        e.literals(e.gates("input x of 0:int;output x*2;"), 0, -2, 0);
        e.literals(e.gates("input x of 0:int;output x*0;"), 0, -2, -2);
        e.literals(e.gates("input x of 0:int;output x*3;", "X0 2 0"), 0, 0, 4);
        // x_0 twice is one wire: r_0 is that one, r_1 and q_0 are two ANDs.
        e.literals(e.gates("input x of 0:int;output x*x;", "A1 2 0", "A1 0 2", "X1 4 6"), 0, 0, 8);
    }

    private static void divide(Edges e) {
        e.use(2, 1);
        e.literals(e.gates(INTS + "output x/y;", "X0 0 2", "A1 1 2", "X0 4 0", "A2 7 8", "X2 0 10"), 0, 7);
        e.literals(e.gates(INTS + "output x%y;", "X0 0 2", "A1 1 2", "X0 4 0", "A2 7 8", "X2 0 10"), 0, 12);
        e.literals(e.gates("input x of 0:int;output x/0;output x%0;"), 0, -1);
        e.literals(e.gates("input x of 0:int;output x/0;output x%0;"), 1, 0);
        e.literals(e.gates("input x of 0:int;output x/1;"), 0, 0);
        e.literals(e.gates("input x of 0:int;output x%1;"), 0, -2);
        // Where S has a bit W that is no CONSTANT it is looked at too.
        e.use(2, 2);
        String[] due = {"X0 2 4", "A1 3 4", "X1 6 10", "A2 11 12", "X2 10 14", "X0 8 2", "A3 17 18", "X3 2 20", "A3 17 12",
            "X0 0 4", "A1 1 4", "X1 6 28", "X3 22 30", "X3 22 28", "A4 35 30", "X4 28 36", "X4 24 38", "A5 41 38", "X5 38 42",
            "X0 26 0", "A6 45 46", "X6 0 48", "X3 32 22", "A6 45 52", "X6 22 54"};
        e.literals(e.gates(INTS + "output x/y;", due), 0, 45, 17);
        e.literals(e.gates(INTS + "output x%y;", due), 0, 50, 56);
    }

    private static void known(Edges e) {
        for (int width : new int[] {1, 2, 7, 32}) {
            e.use(2, width);
            e.gates("output 3+5;output 3-5;output 3*5;output 3/5;output 5%3;output 3<5;output 3<=5;output 3>5;output 3>=5;"
                + "output 3==5;output 3!=5;output -3;output ~3;output 3&5;output 3|5;output 3^5;output true?3:5;"
                + "output 3/0;output 3%0;output !true;output true&&false;output true||false;output 3<<0;output 3>>0;");
        }
    }

    // ---- Statements

    private static void publicIndex(Edges e) {
        e.use(2, 2);
        ShareHouse x = e.gates("input a of 0:int[3];input b of 1:bit[3];var v:int[3];v[1]=a[2];for i=0to 1{v[i+1]=a[i];}"
            + "v[0]=v[2];output a[2];output b[1];output v[0];output v[1];output v[2];output a[4];output a[5-4];");
        e.literals(x, 0, 8, 10);
        e.literals(x, 1, 14);
        e.literals(x, 2, 4, 6);
        e.literals(x, 3, 0, 2);
        e.literals(x, 4, 4, 6);
        e.literals(x, 5, 0, 2);
        e.literals(x, 6, 4, 6);
    }

    private static void readElement(Edges e) {
        e.use(2, 1);
        String three = "input a of 0:bit[3];input i of 1:int;output a[i];";
        e.literals(e.gates(three, "A1 7 0", "A1 6 2", "X1 8 10"), 0, 12);
        e.literals(e.gates("input a of 0:bit[2];input i of 1:int;output a[i];", "A1 5 0", "A1 4 2", "X1 6 8"), 0, 10);
        e.literals(e.gates("input a of 0:bit[1];input i of 1:int;output a[i];", "A1 3 0"), 0, 4);
        e.literals(e.gates("input a of 0:bit[64];input i of 1:int;output a[i];", "A1 129 0", "A1 128 2", "X1 130 132"), 0, 134);
        // The index is built, then the element, e by e.
        e.literals(e.gates("input a of 0:bit[2];input p of 1:bit;input q of 1:bit;output a[int(p&q)];", "A1 4 6", "A2 9 0",
            "A2 8 2", "X2 10 12"), 0, 14);
        e.use(2, 2);
        e.literals(e.gates("input a of 0:bit[5];input i of 1:int;output a[i];", "A1 11 13", "A2 14 0", "A1 10 13", "A2 18 2",
            "X2 16 20", "A1 11 12", "A2 24 4", "X2 22 26", "A1 10 12", "A2 30 6", "X2 28 32"), 0, 34);
        e.literals(e.gates("var a:bit[5]=true;input i of 1:int;output a[i];", "A1 1 3", "A1 0 3", "X1 4 6", "A1 1 2", "X1 8 10",
            "A1 0 2", "X1 12 14"), 0, 16);
    }

    private static void storeElement(Edges e) {
        e.use(2, 1);
        String head = "input i of 0:int;input v of 1:bit;input w of 1:bit;";
        ShareHouse x = e.gates(head + "var a:bit[3];a[i]=v;output a[0];output a[1];", "A1 1 2", "A1 0 2");
        e.literals(x, 0, 6);
        e.literals(x, 1, 8);
        x = e.gates(head + "var a:bit[3]=w;a[i]=v;output a[0];output a[1];", "X0 2 4", "A1 1 6", "X1 4 8", "X0 2 4",
            "A1 0 12", "X1 4 14", "X0 2 4");
        e.literals(x, 0, 10);
        e.literals(x, 1, 16);
        // i ahead of v.
        e.gates(head + "var a:bit[1];a[int(v&w)]=w^v;", "A1 2 4", "X0 4 2", "A2 7 8");
        e.gates(head + "var a:bit[1];a[0]=w^v;", "X0 4 2");
    }

    private static void ifAlone(Edges e) {
        String head = "input c of 0:bit;input p of 0:bit;input q of 1:bit;";
        e.literals(e.gates(head + "var v:bit=p;if(c){v=q;}output v;", "X0 4 2", "A1 0 6", "X1 2 8"), 0, 10);
        e.literals(e.gates(head + "var v:bit;if(c){v=q;}output v;", "A1 0 4"), 0, 6);
        e.literals(e.gates(head + "var v:bit=p;if(c){}output v;"), 0, 2);
        e.literals(e.gates(head + "var v:bit=p;if(c){v=p;}output v;"), 0, 2);
        e.literals(e.gates(head + "var v:bit=p;if(c){v=q;v=p;}output v;"), 0, 2);
        e.literals(e.gates(head + "var v:bit=p;if(true){v=q;}output v;", "X0 4 2", "X0 2 6"), 0, 8);
        e.literals(e.gates(head + "var v:bit=p;if(false){v=q;}output v;", "X0 4 2"), 0, 2);
    }

    private static void ifElse(Edges e) {
        String head = "input c of 0:bit;input p of 0:bit;input q of 1:bit;var v:bit=p;";
        e.literals(e.gates(head + "if(c){v=q;}else{v=!q;}output v;", "X0 4 0"), 0, 7);
        e.literals(e.gates(head + "if(c){v=q;}else{v=!v;}output v;", "X0 4 2", "A1 0 7", "X1 2 8"), 0, 11);
        e.literals(e.gates(head + "if(c){}else{v=q;}output v;", "X0 2 4", "A1 0 6", "X1 4 8"), 0, 10);
        // The condition, the BLOCKs, an if behind else whole, then its MUX.
        e.literals(e.gates(head + "if(c&p){v=p&q;}else if(c^p){v=q;}output v;", "A1 0 2", "A1 2 4", "X0 0 2", "X0 4 2", "A1 10 12",
            "X1 2 14", "X1 8 16", "A2 6 18", "X2 16 20"), 0, 22);
    }

    private static void ifVars(Edges e) {
        String head = "input c of 0:bit;input p of 0:bit;input q of 1:bit;";
        // As they come in the text, however they are assigned.
        e.gates(head + "var v:bit;var w:bit;if(c){w=p;v=q;}", "A1 0 4", "A1 0 2");
        e.gates(head + "var v:bit[2];var w:bit;if(c){w=p;v[1]=p;v[0]=q;}", "A1 0 4", "A1 0 2", "A1 0 2");
        e.gates(head + "var v:bit;for i=0to 0{var w:bit;if(c){w=p;v=q;}}", "A1 0 4", "A1 0 2");
        // None of those that come in within it, or were visible in a BLOCK ahead of it.
        e.gates(head + "if(c){var v:bit;v=p;}else{var v:bit;v=q;}");
        e.gates(head + "if(c){var v:bit=p;v=q;}else{var w:bit=q;w=p;}");
        e.gates(head + "var y:bit;var z:bit;var v:bit;if(c){var w:bit=p;v=q;w=q;}else{var u:bit=q;u=p;}", "A1 0 4");
        e.gates(head + "var y:bit;if(c){var z:bit;if(p){var v:bit=p;v=q;y=v;}z=q;}", "A1 2 4", "A2 0 6");
        e.gates(head + "var v:bit;if(c){var w:bit=p;if(p){w=q;v=w;}}", "A1 2 4", "X0 4 2", "A1 2 8",
            "X1 2 10", "A2 0 6");
        // As many words as there can be.
        e.gates(head + "var s:bit[64];var t:int[64];var u:bit[64];var v:bit[64];if(c){v[63]=p;s[0]=q;}", "A1 0 4", "A1 0 2");
        e.gates(head + "var s:bit[64];var t:int[64];var u:bit[64];var v:bit[64];if(c){v[63]=p;}else{v[63]=q;}", "X0 2 4",
            "A1 0 6", "X1 4 8");
        e.use(2, 2);
        e.gates("input c of 0:bit;input x of 1:int;var v:int;var w:int[2];if(c){w[1]=x;w[0]=x;v=x;}", "A1 0 2", "A1 0 4", "A1 0 2",
            "A1 0 4", "A1 0 2", "A1 0 4");
    }

    // ---- STEPS

    private static void count(Edges e, int due, String text) {
        e.same("STEPS of " + text, e.built(text).look(8), due);
    }

    private static void factorSteps(Edges e) {
        count(e, 0, "");
        count(e, 0, "input a of 0:int[3];def f(x:int):int=x+(1);");
        count(e, 2, "output 1;");
        count(e, 2, "output true;");
        count(e, 2, "output -1;");
        count(e, 2, "output ~-~1;");
        count(e, 2, "output !true;");
        count(e, 3, "output (1);");
        count(e, 3, "output -(1);");
        count(e, 3, "output 1+2;");
        count(e, 3, "output int(true);");
        count(e, 4, "output bit(1,2);");
        count(e, 4, "output true?1:2;");
        count(e, 2, "input a of 0:int;output a;");
        count(e, 3, "input a of 0:int[3];output a[1];");
        count(e, 4, "input a of 0:int[3];input i of 0:int;output a[i]+1;");
        count(e, 3, "def f():int=1;output f();");
        count(e, 7, "def f(x:int,y:int):int=x+(y);output f(1,2);");
        count(e, 8, "def f(x:int):int=x+1;output f(f(1));");
    }

    private static void statementSteps(Edges e) {
        count(e, 1, "var a:int;");
        count(e, 1, "var a:int[64];");
        count(e, 2, "var a:int=1;");
        count(e, 2, "var a:int[64]=1;");
        count(e, 3, "var a:int;a=1;");
        count(e, 4, "var a:int[3];a[0]=1;");
        count(e, 2, "if(true){}");
        count(e, 2, "if(true){}else{}");
        count(e, 4, "if(true){}else if(true){}");
        count(e, 6, "if(true){}else if(true){}else if(true){}else{}");
        count(e, 6, "var a:int;if(true){var b:int;}else{a=1;}");
        count(e, 4, "output 1;output 1;");
    }

    private static void turnSteps(Edges e) {
        count(e, 3, "for i=0to 255{}");
        count(e, 3, "for i=1to 0{var a:int;}");
        count(e, 4, "for i=0to 0{var a:int;}");
        count(e, 3 + 256, "for i=0to 255{var a:int;}");
        count(e, 5 + 2 * 4, "for i=(0)to(1){var a:int=i;a=i;}");
        count(e, 3 + 4 * (3 + 2 * 5), "for i=0to 3{for j=0to 4{var a:int=j;}}");
    }

    private static void publicSteps(Edges e) {
        count(e, 5, "output 1<<1+1+1;");
        count(e, 6, "output 1<<1+(1+1);");
        count(e, 5, "output bit(3,1+0);");
        count(e, 5, "var a:int[3];output a[1+1];");
        count(e, 5, "for i=0+1to 1+1{}");
        count(e, 6, "var a:int[3];a[1+0]=(1);");
    }
}
