/** The boundary cases of promises 1 to 21 themselves: one test for each sentence. */
public final class PromiseEdgesTest {
    /** Wires: 0 a, 1 b, 2 a AND b, 3 a XOR b, 4 NOT a AND NOT b; seven outputs. */
    private static final String SMALL = "input a of 0:bit; input b of 1:bit; output a && b; output a ^ b;"
        + "output a || b; output true; output false; output 6; output -int(a);";

    public static void main(String[] args) {
        Edges edges = new Edges("PromiseEdgesTest", args);
        beginning(edges);
        circuit(edges);
        inputs(edges);
        messages(edges);
        parties(edges);
        edges.end();
    }

    private static void beginning(Edges edges) {
        edges.of("nearest", "N 2 .. 16, W 1 .. 32 (others count as the nearest of these)", PromiseEdgesTest::nearest);
        edges.of("newObject", "no circuit, SEED 1, no draws wait, the tape is empty.", PromiseEdgesTest::newObject);
        edges.of("highestFirst", "Puts twenty bytes ready, those of a first, the highest of each first.",
            PromiseEdgesTest::highestFirst);
        edges.of("zeroAtFirst", "(They are 0 at first, and behind each end() that answers a number.)",
            PromiseEdgesTest::zeroAtFirst);
        edges.of("howManyItHas", "The first n of the bytes that are ready come to the tape: how many it has.",
            PromiseEdgesTest::howManyItHas);
        edges.of("notTwenty", "NONE, and nothing comes, if n is not 0 .. 20", PromiseEdgesTest::notTwenty);
        edges.of("fourThousand", "it would have more than 4000", PromiseEdgesTest::fourThousand);
        edges.of("noText", "or one of them may not be in a TEXT.", PromiseEdgesTest::noText);
        edges.of("emptyThen", "The tape is a PROGRAM, and empty then", PromiseEdgesTest::emptyThen);
        edges.of("likeNew", "and empty then: 0, it is the circuit", PromiseEdgesTest::likeNew);
        edges.of("inputsAreZero", "0, it is the circuit, all its inputs are 0", PromiseEdgesTest::inputsAreZero);
        edges.of("noCircuit", "or the FAULT: there is no circuit.", PromiseEdgesTest::noCircuit);
        edges.of("nothingDealt", "In both cases nothing is dealt, nothing in flight any more.", PromiseEdgesTest::nothingDealt);
    }

    private static void circuit(Edges edges) {
        edges.of("place", "What 0: place of the latest compile()'s FAULT (NONE without)", PromiseEdgesTest::place);
        edges.of("counts", "1: GATES, 2: ANDs, 3: D, 4: bits of inputs, 5: words of inputs, 6: words of outputs (one for each "
            + "output), 7: DRAWS that a deal takes, 8: STEPS", PromiseEdgesTest::counts);
        edges.of("withoutCircuit", "(1 to 8: NONE without a circuit)", PromiseEdgesTest::withoutCircuit);
        edges.of("zeroUndealt", "(9 to 11: 0 if nothing is dealt)", PromiseEdgesTest::zeroUndealt);
        edges.of("sinceTheDeal", "9: messages in flight, 10: delivered since the deal, 11: parties that are DONE",
            PromiseEdgesTest::sinceTheDeal);
        edges.of("state", "12: 0 no circuit, 1 nothing dealt, 2 dealt, 13: draws that wait, 14: SEED.", PromiseEdgesTest::state);
        edges.of("otherWhat", "NONE for another what.", PromiseEdgesTest::otherWhat);
        edges.of("gate", "1 if it is turned (of an XOR not).", PromiseEdgesTest::gate);
        edges.of("noGate", "(of an XOR not). NONE if there is none such.", PromiseEdgesTest::noGate);
        edges.of("literal", "its LITERAL, as above, -2 for CONSTANT 0, -1 for 1", PromiseEdgesTest::literal);
        edges.of("noLiteral", "-3 if there is none such.", PromiseEdgesTest::noLiteral);
    }

    private static void inputs(Edges edges) {
        edges.of("input", "what 0: its party, 1: its bits (W or 1), 2: its value without sign, as it was told.",
            PromiseEdgesTest::input);
        edges.of("noInput", "as it was told. NONE if there is none such.", PromiseEdgesTest::noInput);
        edges.of("lowestBits", "The lowest bits of v are the value of a word of inputs", PromiseEdgesTest::lowestBits);
        edges.of("nextDeal", "from the next deal on: true", PromiseEdgesTest::nextDeal);
        edges.of("noWord", "false if there is none such.", PromiseEdgesTest::noWord);
        edges.of("seed", "`void seed(int s)`: The SEED.", PromiseEdgesTest::seed);
        edges.of("drawsMore", "n draws more wait, those of bits from the lowest on: how many.", PromiseEdgesTest::drawsMore);
        edges.of("notSixtyFour", "NONE if n is not 0 .. 64", PromiseEdgesTest::notSixtyFour);
        edges.of("twoThousand", "or more than 2000 would.", PromiseEdgesTest::twoThousand);
        edges.of("dealtBefore", "Deals (what was dealt before is no more): true", PromiseEdgesTest::dealtBefore);
        edges.of("noDeal", "false if there is no circuit.", PromiseEdgesTest::noDeal);
    }

    private static void messages(Edges edges) {
        edges.of("message", "what 0: from, 1: to, 2: round, 3: how many bits, 4 and above: its bits, 4 the first.",
            PromiseEdgesTest::message);
        edges.of("noMessage", "4 the first. NONE if there is none such.", PromiseEdgesTest::noMessage);
        edges.of("allRounds", "how many messages are sent for that (of all rounds that it goes on to).",
            PromiseEdgesTest::allRounds);
        edges.of("noDeliver", "(of all rounds that it goes on to). NONE if there is none such.", PromiseEdgesTest::noDeliver);
        edges.of("atMost", "At most n messages, one by one, each time number by modulo those that are in flight: how many.",
            PromiseEdgesTest::atMost);
        edges.of("noRush", "NONE if n or by is below 0, n above 100,000.", PromiseEdgesTest::noRush);
    }

    private static void parties(Edges edges) {
        edges.of("partyDone", "what 0: the round that it is AT (D + 2 when DONE), 1: messages that came to it, 2: bits of its VIEW.",
            PromiseEdgesTest::partyDone);
        edges.of("noParty", "2: bits of its VIEW. NONE if there is none such, or nothing is dealt.", PromiseEdgesTest::noParty);
        edges.of("noAnd", "Of GATE g, an AND, what 0: a, 1: b, 2: c of a party. NONE if there is none such, or nothing is dealt.",
            PromiseEdgesTest::noAnd);
        edges.of("noShare", "A party's share of a wire; NONE if there is none such, or it does not know it (yet).",
            PromiseEdgesTest::noShare);
        edges.of("noView", "Bit i of a party's VIEW; NONE if there is none such.", PromiseEdgesTest::noView);
        edges.of("noTold", "Output k, without sign, as a party that is DONE has it; NONE if there is none such.",
            PromiseEdgesTest::noTold);
        edges.of("latestDeal", "of the inputs of the latest deal (as they are told, if nothing is dealt)",
            PromiseEdgesTest::latestDeal);
        edges.of("noTruth", "(as they are told, if nothing is dealt); NONE if there is none such.", PromiseEdgesTest::noTruth);
        edges.of("anyState", "An object is used for at most 512 calls after it has been made", PromiseEdgesTest::anyState);
    }

    // ---- Promises 1 to 4

    private static void nearest(Edges e) {
        int[][] counts = {{Integer.MIN_VALUE, 2}, {-1, 2}, {0, 2}, {1, 2}, {2, 2}, {3, 3}, {15, 15}, {16, 16}, {17, 16}, {256, 16},
            {Integer.MAX_VALUE, 16}};
        for (int[] c : counts) {
            ShareHouse x = Check.built(c[0], 4, "input a of 0:int;");
            e.same("DRAWS of " + c[0] + " parties", x.look(7), 4 * (c[1] - 1));
            x.deal();
            e.same("messages of " + c[0] + " parties", x.look(9), c[1] * (c[1] - 1));
            e.same("the last party of " + c[0], x.party(c[1] - 1, 0), 0);
            e.same("no party behind it of " + c[0], x.party(c[1], 0), -1);
        }
        int[][] widths = {{Integer.MIN_VALUE, 1}, {-1, 1}, {0, 1}, {1, 1}, {2, 2}, {31, 31}, {32, 32}, {33, 32}, {64, 32},
            {Integer.MAX_VALUE, 32}};
        for (int[] w : widths) {
            ShareHouse x = Check.built(2, w[0], "input a of 0:int;output a;output ~0;");
            e.same("bits of width " + w[0], x.look(4), w[1]);
            e.same("bits of a word of width " + w[0], x.input(0, 1), w[1]);
            e.same("the last bit of width " + w[0], x.literal(0, w[1] - 1), 2 * w[1] - 2);
            e.same("no bit behind it of width " + w[0], x.literal(0, w[1]), -3);
            e.same("the greatest word of width " + w[0], x.truth(1), (1L << w[1]) - 1);
        }
    }

    private static void newObject(Edges e) {
        int[] due = {-1, -1, -1, -1, -1, -1, -1, -1, -1, 0, 0, 0, 0, 0, 1};
        for (int n : new int[] {2, 16}) {
            e.use(n, 2 * n);
            ShareHouse x = e.fresh();
            for (int what = 0; what < due.length; what++) {
                e.same("look(" + what + ")", x.look(what), due[what]);
            }
            e.same("the tape", x.end(0), 0);
            e.holds("no deal", !x.deal());
            e.same("no truth", x.truth(0), -1);
            e.same("no draws", x.draws(0, 0), 0);
            e.same("compile of the empty tape", e.fresh().compile(), 0);
        }
    }

    private static void highestFirst(Edges e) {
        ShareHouse x = e.fresh();
        // Each of the twenty told by a FAULT at its place.
        x.feed(0x20202020, 0x20202020, 0x20202020, 0x20202020, 0x20202020);
        e.same("blanks", x.end(20), 20);
        for (int i = 0; i < 20; i++) {
            int[] words = {0x20202020, 0x20202020, 0x20202020, 0x20202020, 0x20202020};
            words[i / 4] ^= (0x20 ^ '$') << 24 - i % 4 * 8;
            ShareHouse y = e.fresh();
            y.feed(words[0], words[1], words[2], words[3], words[4]);
            e.same("end", y.end(20), 20);
            e.same("compile", y.compile(), 1);
            e.same("the place of byte " + i, y.look(0), i);
        }
        ShareHouse z = e.fresh();
        z.feed(0x6F757470, 0x75742031, 0x3B6F7574, 0x70757420, 0x2D39203B);
        e.same("output 1;output -9 ;", z.end(20), 20);
        e.same("compile", z.compile(), 0);
        e.same("truth(0)", z.truth(0), 1);
        e.same("truth(1)", z.truth(1), 247);
    }

    private static void blanks(ShareHouse x) {
        x.feed(0x20202020, 0x20202020, 0x20202020, 0x20202020, 0x20202020);
    }

    private static void zeroAtFirst(Edges e) {
        ShareHouse x = e.fresh();
        for (int n = 1; n <= 20; n++) {
            e.same("bytes are 0 at first", x.end(n), -1);
        }
        blanks(x);
        e.same("end(3)", x.end(3), 3);
        e.same("0 behind it", x.end(1), -1);
        blanks(x);
        e.same("end(0)", x.end(0), 3);
        e.same("0 behind it too", x.end(1), -1);
        blanks(x);
        e.same("end(20)", x.end(20), 23);
        e.same("0 behind it too", x.end(1), -1);
        // But not behind one that answers NONE.
        blanks(x);
        e.same("end(21)", x.end(21), -1);
        e.same("end(-1)", x.end(-1), -1);
        e.same("end(2)", x.end(2), 25);
        x.feed(0x20202000, 0, 0, 0, 0);
        e.same("a byte 0", x.end(4), -1);
        e.same("those ahead of it", x.end(3), 28);
        // A later feed puts all twenty anew.
        blanks(x);
        x.feed(0x20202020, 0, 0, 0, 0);
        e.same("those of the earlier one", x.end(5), -1);
        e.same("those of the later one", x.end(4), 32);
        Check.put(x, " ".repeat(3960));
        blanks(x);
        e.same("too many", x.end(9), -1);
        e.same("they are ready still", x.end(8), 4000);
        // compile() lets them be.
        blanks(x);
        e.same("compile", x.compile(), 0);
        e.same("ready still", x.end(20), 20);
    }

    private static void howManyItHas(Edges e) {
        ShareHouse x = e.fresh();
        int has = 0;
        for (int n = 0; n <= 20; n++) {
            blanks(x);
            has += n;
            e.same("end(" + n + ")", x.end(n), has);
        }
        e.same("end(0)", x.end(0), has);
        // The first n alone.
        ShareHouse y = e.fresh();
        y.feed(0x6F757470, 0x75742031, 0x3B242424, 0x24242424, 0x24242424);
        e.same("end(9)", y.end(9), 9);
        e.same("compile", y.compile(), 0);
        e.same("truth(0)", y.truth(0), 1);
    }

    private static void notTwenty(Edges e) {
        ShareHouse x = e.fresh();
        blanks(x);
        for (int n : new int[] {-1, 21, 22, 24, 100, 4000, 4001, -20, Integer.MIN_VALUE, Integer.MAX_VALUE,
            Integer.MAX_VALUE - 19, 1 << 31 | 5, 256, 65536}) {
            e.same("end(" + n + ")", x.end(n), -1);
        }
        e.same("nothing came, and they are ready still", x.end(20), 20);
        for (int n = 0; n <= 20; n++) {
            ShareHouse y = e.fresh();
            blanks(y);
            e.same("end(" + n + ")", y.end(n), n);
        }
        blanks(x);
        e.same("end(MAX) where there is something", x.end(Integer.MAX_VALUE), -1);
        e.same("nothing came", x.end(0), 20);
    }

    private static void fourThousand(Edges e) {
        ShareHouse x = e.fresh();
        e.same("3999", Check.put(x, " ".repeat(3999)), 3999);
        blanks(x);
        e.same("4019", x.end(20), -1);
        e.same("4001", x.end(2), -1);
        e.same("4000", x.end(1), 4000);
        blanks(x);
        e.same("4001", x.end(1), -1);
        e.same("4020", x.end(20), -1);
        e.same("nothing came", x.end(0), 4000);
        e.same("compile of 4000", x.compile(), 0);
        ShareHouse y = e.fresh();
        e.same("4000 at once", Check.put(y, "output 7;" + " ".repeat(3982) + "output 8;"), 4000);
        e.same("compile", y.compile(), 0);
        e.same("truth(1)", y.truth(1), 8);
        // It counts anew then.
        e.same("4000 once more", Check.put(y, " ".repeat(4000)), 4000);
    }

    private static void noText(Edges e) {
        for (int b = 0; b < 256; b++) {
            boolean text = b >= 32 && b <= 126 || b == 9 || b == 10;
            for (int at : new int[] {0, 7, 19}) {
                int[] words = {0x20202020, 0x20202020, 0x20202020, 0x20202020, 0x20202020};
                words[at / 4] ^= (0x20 ^ b) << 24 - at % 4 * 8;
                ShareHouse x = e.fresh();
                x.feed(words[0], words[1], words[2], words[3], words[4]);
                // One that is not among the first n has no part in it.
                e.same("end with a byte " + b + " at " + at, x.end(at + 1), text ? at + 1 : -1);
                if (!text) {
                    e.same("nothing came, end ahead of a byte " + b, x.end(at), at);
                }
            }
        }
    }

    private static void emptyThen(Edges e) {
        ShareHouse x = e.built("output 1;");
        e.same("empty behind 0", x.end(0), 0);
        for (String text : new String[] {"$", "output 4294967296;", "output " + "-".repeat(31) + "1;", "output zz;", "output 1+true;",
            "var n:int;output 1<<n;", "output 1<<8;", "for i=0to 255{for j=0to 255{var z:bit=true;}}"}) {
            e.holds("a fault of " + text, Check.compile(x, text) > 0);
            e.same("empty behind " + text, x.end(0), 0);
        }
        e.same("and an empty PROGRAM then", x.compile(), 0);
        e.same("without outputs", x.look(6), 0);
    }

    /** Texts that leave as much behind as they can, in whatever they are cut off by a FAULT. */
    private static String[] leftBehind() {
        String vars = "var a:int[64]=1;var b:bit[64]=true;var c:int[64]=2;var d:int[64]=3;";
        String inputs = "input a of 0:int[64];input b of 1:bit[64];input c of 1:int[64];input d of 0:bit[64];";
        String waiting = "true||true&&true|true^true&true==1<1<<1+1*";
        StringBuilder deep = new StringBuilder("var n:int;");
        for (int i = 0; i < 10; i++) {
            deep.append("if(true){for k%=0to 1{var w%:int=7;n=w%;".replace("%", "" + i));
        }
        return new String[] {"", vars + "output a[1];", inputs + "output b[1];output a[c[0]];", vars + "$", inputs + "$",
            "def f(x:int,y:int,z:int):int=x+y*z;output f(1,2,3);", "var a:int;def f(x:int):int=x+zz;", "var a:int;def f(x:int,y:bit,"
            + "x:int):int=1;", "output " + (waiting + "int(").repeat(30) + "$", "output " + (waiting + "int(").repeat(30) + "zz"
            + ")".repeat(30) + ";",
            deep + "$", deep + "n=true;" + "}".repeat(20), deep + "n=1<<8;" + "}".repeat(20),
            "def f(x:int,y:int):int=x+(y<<8);output 1+(2+f(3,f(4,5)));", "input p of 0:bit;input q of 1:bit;var r:bit=p;"
            + "for i=0to 250{for j=0to 7{r=!(r&&q);}}", "output 1;".repeat(60), "output 1<<8;",
            "for i=0to 255{for j=0to 255{var z:bit=true;}}", inputs + "output a[c[0]]/c[1]/c[2]/c[3];",
            vars + "if(true){".repeat(29) + "a[0]=4;d[63]=1<<8;" + "}".repeat(29)};
    }

    private static void likeNew(Edges e) {
        String waiting = "true||true&&true|true^true&true==1<1<<1+1*";
        String[] next = {"", "input p of 1:bit;var v:int[3];def f(x:int):int=x+1;v[0]=f(int(p));output v[0];output v[int(p)];",
            "def g():int=4;def h(x:bit):bit=!x;input p of 0:bit;output g();output h(p)&&p;output p||h(h(p));",
            "var a:int[64];var b:int[64];var c:int[64];var d:int[64];output a[0];output d[63];",
            "input a of 1:int[64];input b of 1:bit[64];input c of 0:bit[64];input d of 0:bit[64];output a[63]&int(d[63]);",
            "output " + (waiting + "int(").repeat(30) + "true" + ")".repeat(30) + ";",
            "input p of 0:bit;input x of 1:int;var n:int;if(p){var m:int;m=n+x;n=m;if(n==1){m=m+1;n=n+m;}}else{n=5;}"
            + "for i=0to 3{n=n+i;}output n;",
            "output zz;", "output 1", "def f(x:int):int=x<<8;output f(1);", "input p of 0:bit;input x of 1:int;"
            + "var a:int[64]=1;var b:bit[64]=true;var c:int[64]=2;var d:int[64]=3;" + "if(p){".repeat(29) + "a[0]=x;d[63]=x;"
            + "}".repeat(29) + "output a[0];output d[63];"};
        for (String first : leftBehind()) {
            for (String second : next) {
                ShareHouse x = e.fresh();
                ShareHouse y = e.fresh();
                Check.compile(x, first);
                x.give(0, 3);
                x.deal();
                x.rush(7, 1);
                x.truth(0);
                e.same("compile behind another", Check.compile(x, second), Check.compile(y, second));
                e.alike(second.length() > 60 ? second.substring(0, 60) : second, x, y);
            }
        }
    }

    private static void inputsAreZero(Edges e) {
        String text = "input a of 0:int[3];input p of 1:bit;output a[2];output p;";
        ShareHouse x = e.built(text);
        for (int n = 0; n < 3; n++) {
            for (int w = 0; w < 4; w++) {
                e.same("input(" + w + ", 2)", x.input(w, 2), 0);
                e.holds("give", x.give(w, -1));
                e.holds("it is told", x.input(w, 2) > 0);
            }
            e.same("truth(0)", x.truth(0), 255);
            if (n > 0) {
                x.deal();
                Edges.finish(x);
            }
            e.same("compile", Check.compile(x, text), 0);
            e.same("truth(0) of 0", x.truth(0), 0);
            x.deal();
            Edges.finish(x);
            e.same("told(1, 0) of 0", x.told(1, 0), 0);
            e.same("told(0, 1) of 0", x.told(0, 1), 0);
            e.same("compile", Check.compile(x, text), 0);
        }
    }

    private static void noCircuit(Edges e) {
        String[] faulty = {"$", "output 4294967296;", "output " + "-".repeat(31) + "1;", "output zz;", "output 1+true;",
            "var n:int;output 1<<n;", "output 1<<8;", "for i=0to 255{for j=0to 255{var z:bit=true;}}"};
        for (int fault = 1; fault <= 8; fault++) {
            ShareHouse x = e.built(SMALL);
            e.same("compile", Check.compile(x, "input a of 0:int;output a*a;" + faulty[fault - 1]), fault);
            without(e, x);
            e.same("place", x.look(0) > 0 ? 1 : 0, 1);
            e.same("compile", Check.compile(x, SMALL), 0);
            e.same("a circuit again", x.look(1), 3);
        }
    }

    /** That there is no circuit, and nothing dealt. */
    private static void without(Edges e, ShareHouse x) {
        for (int what = 1; what <= 8; what++) {
            e.same("look(" + what + ")", x.look(what), -1);
        }
        for (int what = 9; what <= 12; what++) {
            e.same("look(" + what + ")", x.look(what), 0);
        }
        e.same("gate", x.gate(0, 0), -1);
        e.same("literal", x.literal(0, 0), -3);
        e.same("input", x.input(0, 0), -1);
        e.same("input", x.input(0, 2), -1);
        e.holds("give", !x.give(0, 1));
        e.holds("deal", !x.deal());
        e.same("truth", x.truth(0), -1);
        undealt(e, x);
    }

    private static void undealt(Edges e, ShareHouse x) {
        for (int what = 9; what <= 11; what++) {
            e.same("look(" + what + ")", x.look(what), 0);
        }
        e.same("message", x.message(0, 0), -1);
        e.same("deliver", x.deliver(0), -1);
        e.same("rush", x.rush(5, 0), 0);
        e.same("party", x.party(0, 0), -1);
        e.same("dealt", x.dealt(0, 0, 0), -1);
        e.same("share", x.share(0, 0), -1);
        e.same("view", x.view(0, 0), -1);
        e.same("told", x.told(0, 0), -1);
    }

    private static void nothingDealt(Edges e) {
        for (String next : new String[] {SMALL, "output 1;", ""}) {
            for (int brought : new int[] {0, 3, 100}) {
                ShareHouse x = e.built(SMALL);
                x.deal();
                x.rush(brought, 0);
                e.same("compile", Check.compile(x, next), 0);
                e.same("look(12)", x.look(12), 1);
                undealt(e, x);
                x.deal();
                x.rush(brought, 0);
                e.same("compile", Check.compile(x, next + "$"), 1);
                e.same("look(12)", x.look(12), 0);
                undealt(e, x);
            }
        }
        // What else there is stays.
        ShareHouse x = e.fresh();
        x.seed(5);
        x.draws(0, 7);
        x.compile();
        e.same("SEED", x.look(14), 5);
        e.same("draws that wait", x.look(13), 7);
        e.same("a fault", Check.compile(x, "$"), 1);
        e.same("SEED", x.look(14), 5);
        e.same("draws that wait", x.look(13), 7);
    }

    // ---- Promises 5 to 7

    private static void place(Edges e) {
        ShareHouse x = e.fresh();
        e.same("without a compile", x.look(0), -1);
        e.same("compile", Check.compile(x, "$"), 1);
        e.same("place 0", x.look(0), 0);
        e.same("compile", Check.compile(x, "output 1"), 1);
        e.same("the latest one", x.look(0), 8);
        e.same("compile", Check.compile(x, "output 1;"), 0);
        e.same("none", x.look(0), -1);
        e.same("compile", Check.compile(x, "output zz;"), 4);
        e.same("place", x.look(0), 7);
        x.feed(0x24242424, 0, 0, 0, 0);
        x.end(4);
        x.deal();
        e.same("it stays up to the next compile", x.look(0), 7);
        e.same("compile", x.compile(), 1);
        e.same("place", x.look(0), 0);
    }

    private static void counts(Edges e) {
        for (int n : new int[] {2, 3, 16}) {
            e.use(n, 4);
            ShareHouse x = e.built(SMALL);
            e.same("bits of inputs", x.look(4), 2);
            e.same("words of inputs", x.look(5), 2);
            e.same("words of outputs", x.look(6), 7);
            e.same("DRAWS", x.look(7), 2 * (n - 1) + x.look(2) * (3 * n - 1));
            x.draws(0, 64);
            x.draws(0, 64);
            x.draws(0, 64);
            x.draws(0, 64);
            x.deal();
            e.same("DRAWS that were taken", 256 - x.look(13), x.look(7));
        }
        e.use(2, 4);
        ShareHouse y = e.built("input a of 0:bit;input b of 1:bit;output a&&b;output a^b;output a||b;output true;");
        int[] due = {-1, 3, 2, 1, 2, 2, 4, 12, 11, 0, 0, 0, 1, 0, 1};
        for (int what = 0; what < due.length; what++) {
            e.same("look(" + what + ")", y.look(what), due[what]);
        }
        ShareHouse z = e.built("input v of 1:int[64];input p of 0:bit[64];output v[0];output p[0];");
        e.same("bits of inputs", z.look(4), 64 * 5);
        e.same("words of inputs", z.look(5), 128);
        e.same("words of outputs", z.look(6), 2);
    }

    private static void withoutCircuit(Edges e) {
        ShareHouse x = e.fresh();
        for (int what = 1; what <= 8; what++) {
            e.same("look(" + what + ")", x.look(what), -1);
        }
        x.compile();
        for (int what = 1; what <= 8; what++) {
            e.same("look(" + what + ") of an empty one", x.look(what), 0);
        }
        Check.compile(x, "output");
        for (int what = 1; what <= 8; what++) {
            e.same("look(" + what + ") behind a fault", x.look(what), -1);
        }
    }

    private static void zeroUndealt(Edges e) {
        ShareHouse x = e.fresh();
        for (int n = 0; n < 4; n++) {
            for (int what = 9; what <= 11; what++) {
                e.same("look(" + what + ")", x.look(what), 0);
            }
            if (n == 2) {
                x.deal();
                x.rush(5, 0);
            }
            Check.compile(x, n == 0 ? "$" : SMALL);
        }
    }

    private static void sinceTheDeal(Edges e) {
        e.use(3, 4);
        ShareHouse x = e.built("input a of 0:bit;input b of 1:bit;output a&&b;");
        for (int deal = 0; deal < 2; deal++) {
            x.deal();
            int[] flight = {6, 0, 0};
            for (int n = 0; n < 3; n++) {
                e.same("look(" + (9 + n) + ") of a new deal", x.look(9 + n), flight[n]);
            }
            x.deliver(0);
            e.same("in flight", x.look(9), 5);
            e.same("delivered", x.look(10), 1);
            x.rush(3, 0);
            e.same("delivered", x.look(10), 4);
            x.rush(1000, 0);
            e.same("in flight", x.look(9), 0);
            e.same("delivered", x.look(10), 18);
            e.same("DONE", x.look(11), 3);
        }
    }

    private static void state(Edges e) {
        ShareHouse x = e.fresh();
        e.same("no circuit", x.look(12), 0);
        x.compile();
        e.same("nothing dealt", x.look(12), 1);
        x.deal();
        e.same("dealt", x.look(12), 2);
        x.rush(100, 0);
        e.same("dealt still", x.look(12), 2);
        x.compile();
        e.same("nothing dealt", x.look(12), 1);
        Check.compile(x, "$");
        e.same("no circuit", x.look(12), 0);
        e.same("draws that wait", x.look(13), 0);
        x.draws(0, 9);
        e.same("draws that wait", x.look(13), 9);
        e.same("SEED", x.look(14), 1);
        x.seed(-7);
        e.same("SEED", x.look(14), -7);
    }

    private static void otherWhat(Edges e) {
        ShareHouse x = e.built(SMALL);
        x.deal();
        for (int what : Edges.WRONG) {
            e.same("look(" + what + ")", x.look(what), -1);
        }
        for (int what : new int[] {15, 16, 17, 100, 256, 257, 270}) {
            e.same("look(" + what + ")", x.look(what), -1);
        }
    }

    private static void gate(Edges e) {
        ShareHouse x = e.gates("input a of 0:bit;input b of 1:bit;output !a&!b;output !a^b;output !a^!b;output !(a&b)&!(a^b);",
            "A1 1 3", "X0 0 2", "X0 0 2", "A1 0 2", "X0 0 2", "A2 11 13");
        for (int g = 0; g < 6; g++) {
            e.same("what 4", x.gate(g, 4), -1);
            e.same("what -1", x.gate(g, -1), -1);
        }
    }

    private static void noGate(Edges e) {
        ShareHouse x = e.built(SMALL);
        int gates = x.look(1);
        for (int what = 0; what < 4; what++) {
            e.holds("the last one", x.gate(gates - 1, what) >= 0);
            e.same("none behind it", x.gate(gates, what), -1);
            for (int wrong : Edges.WRONG) {
                e.same("gate(" + wrong + ", " + what + ")", x.gate(wrong, what), -1);
                e.same("gate(0, " + wrong + ")", x.gate(0, wrong), -1);
            }
        }
        e.same("of no gates", e.built("output 1;").gate(0, 0), -1);
        e.same("without a circuit", e.fresh().gate(0, 0), -1);
    }

    private static void literal(Edges e) {
        e.use(2, 3);
        ShareHouse x = e.built("input a of 0:int;output 5;output true;output false;output ~a;output a<<1;output bit(a,2);");
        e.literals(x, 0, -1, -2, -1);
        e.literals(x, 1, -1);
        e.literals(x, 2, -2);
        e.literals(x, 3, 1, 3, 5);
        e.literals(x, 4, -2, 0, 2);
        e.literals(x, 5, 4);
    }

    private static void noLiteral(Edges e) {
        ShareHouse x = e.built(SMALL);
        e.same("a bit has one", x.literal(0, 1), -3);
        e.holds("a word has eight", x.literal(5, 7) != -3);
        e.same("a word has eight", x.literal(5, 8), -3);
        e.same("seven outputs", x.literal(7, 0), -3);
        for (int wrong : Edges.WRONG) {
            e.same("literal(" + wrong + ", 0)", x.literal(wrong, 0), -3);
            e.same("literal(0, " + wrong + ")", x.literal(0, wrong), -3);
            e.same("literal(6, " + wrong + ")", x.literal(6, wrong), -3);
        }
        e.same("no output", e.built("").literal(0, 0), -3);
        e.same("no circuit", e.fresh().literal(0, 0), -3);
    }

    // ---- Promises 8 to 12

    private static void input(Edges e) {
        for (int width : new int[] {1, 8, 31, 32}) {
            e.use(16, width);
            ShareHouse x = e.built("input a of 15:int;input p of 0:bit[2];input b of 7:int[2];");
            int[] owner = {15, 0, 0, 7, 7};
            int[] bits = {width, 1, 1, width, width};
            for (int w = 0; w < 5; w++) {
                e.same("party of " + w, x.input(w, 0), owner[w]);
                e.same("bits of " + w, x.input(w, 1), bits[w]);
                e.same("value of " + w, x.input(w, 2), 0);
                x.give(w, -1);
                e.same("value without sign of " + w, x.input(w, 2), (1L << bits[w]) - 1);
                x.give(w, Integer.MIN_VALUE);
                e.same("value of MIN of " + w, x.input(w, 2), bits[w] == 32 ? 1L << 31 : 0);
            }
            x.give(0, 1);
            x.deal();
            x.give(0, 0);
            e.same("as it was told", x.input(0, 2), 0);
        }
    }

    private static void noInput(Edges e) {
        ShareHouse x = e.built("input a of 0:int[3];output a[0];");
        e.same("the last one", x.input(2, 1), 8);
        for (int what = 0; what < 3; what++) {
            e.same("none behind it", x.input(3, what), -1);
            for (int wrong : Edges.WRONG) {
                e.same("input(" + wrong + ", " + what + ")", x.input(wrong, what), -1);
                e.same("input(0, " + wrong + ")", x.input(0, wrong), -1);
            }
        }
        e.same("what 3", x.input(0, 3), -1);
        e.same("none at all", e.built("").input(0, 0), -1);
        e.same("without a circuit", e.fresh().input(0, 0), -1);
        e.same("the 256th", e.built("input a of 0:bit[64];input b of 0:bit[64];input c of 0:bit[64];input d of 1:bit[64];")
            .input(255, 0), 1);
    }

    private static void lowestBits(Edges e) {
        for (int width : new int[] {1, 5, 8, 31, 32}) {
            e.use(2, width);
            ShareHouse x = e.built("input a of 0:int;input p of 1:bit;output a;output p;");
            for (int v : new int[] {0, 1, 2, 3, -1, -2, 255, 256, 257, Integer.MIN_VALUE, Integer.MAX_VALUE, 0x55555555}) {
                e.holds("give(0)", x.give(0, v));
                e.holds("give(1)", x.give(1, v));
                long due = v & (1L << width) - 1;
                e.same("value of " + v + " in " + width, x.input(0, 2), due);
                e.same("bit of " + v, x.input(1, 2), v & 1);
                e.same("truth of " + v + " in " + width, x.truth(0), due);
                e.same("truth of the bit of " + v, x.truth(1), v & 1);
            }
        }
    }

    private static void nextDeal(Edges e) {
        ShareHouse x = e.built("input a of 0:int;output a;");
        x.give(0, 5);
        x.deal();
        e.holds("give", x.give(0, 9));
        e.same("of the deal ahead of it", x.truth(0), 5);
        e.same("its VIEW", x.view(0, 0), 1);
        e.same("its VIEW", x.view(0, 3), 0);
        Edges.finish(x);
        e.same("told", x.told(1, 0), 5);
        x.deal();
        e.same("of the next one", x.truth(0), 9);
        e.same("its VIEW", x.view(0, 3), 1);
        Edges.finish(x);
        e.same("told", x.told(1, 0), 9);
        x.deal();
        Edges.finish(x);
        e.same("and of all that come", x.told(0, 0), 9);
    }

    private static void noWord(Edges e) {
        ShareHouse x = e.built("input a of 0:int[3];");
        e.holds("the last one", x.give(2, 1));
        e.holds("none behind it", !x.give(3, 1));
        for (int wrong : Edges.WRONG) {
            e.holds("give(" + wrong + ")", !x.give(wrong, 1));
        }
        e.same("nothing is changed", x.input(0, 2) + x.input(1, 2), 0);
        e.holds("none at all", !e.built("output 1;").give(0, 1));
        e.holds("without a circuit", !e.fresh().give(0, 1));
    }

    private static void seed(Edges e) {
        ShareHouse x = e.fresh();
        for (int s : new int[] {0, -1, 1, Integer.MIN_VALUE, Integer.MAX_VALUE}) {
            x.seed(s);
            e.same("SEED", x.look(14), s);
        }
    }

    private static void drawsMore(Edges e) {
        e.use(2, 32);
        ShareHouse x = e.built("input a of 0:int[4];");
        long[] bits = {0x8000_0000_0000_0001L, -1, 0x7FFF_FFFF_FFFF_FFFEL, 5};
        int[] n = {64, 3, 60, 1};
        int wait = 0;
        for (int i = 0; i < bits.length; i++) {
            wait += n[i];
            e.same("draws", x.draws(bits[i], n[i]), wait);
            e.same("look(13)", x.look(13), wait);
        }
        e.same("none more", x.draws(-1, 0), wait);
        x.deal();
        int at = 128;
        for (int i = 0; i < bits.length; i++) {
            for (int j = 0; j < n[i]; j++) {
                e.same("draw " + j + " of " + i, x.view(0, at), bits[i] >>> j & 1);
                at++;
            }
        }
        e.same("all are drawn", x.look(13), 0);
        // What is left waits for the next deal.
        ShareHouse y = e.built("input a of 0:bit[3];");
        y.draws(0b0110_0101, 8);
        for (int left = 5; left >= 2; left -= 3) {
            y.deal();
            e.same("what is left", y.look(13), left);
        }
        int[] due = {0, 0, 1};
        for (int j = 0; j < 3; j++) {
            e.same("of the second deal", y.view(0, 3 + j), due[j]);
        }
        e.same("how many wait", y.draws(0, 1), 3);
    }

    private static void notSixtyFour(Edges e) {
        ShareHouse x = e.fresh();
        for (int wrong : Edges.WRONG) {
            e.same("draws(-1, " + wrong + ")", x.draws(-1, wrong), -1);
        }
        e.same("draws(-1, 65)", x.draws(-1, 65), -1);
        e.same("none waits", x.look(13), 0);
        e.same("draws(-1, 0)", x.draws(-1, 0), 0);
        e.same("draws(-1, 64)", x.draws(-1, 64), 64);
        e.same("draws(-1, 65)", x.draws(-1, 65), -1);
        e.same("as before", x.look(13), 64);
    }

    private static void twoThousand(Edges e) {
        ShareHouse x = e.fresh();
        for (int i = 1; i <= 31; i++) {
            e.same("draws", x.draws(i, 64), 64 * i);
        }
        e.same("2048", x.draws(0, 64), -1);
        e.same("2001", x.draws(0, 17), -1);
        e.same("as before", x.look(13), 1984);
        e.same("2000", x.draws(0xBEEF, 16), 2000);
        e.same("2001", x.draws(0, 1), -1);
        e.same("none more", x.draws(0, 0), 2000);
        e.same("a wrong n", x.draws(0, -1), -1);
        // All of them are there, and there is room again for as many as were drawn.
        Check.compile(x, "input a of 0:int[64];input b of 0:int[64];input c of 0:int[64];input d of 0:int[58];");
        x.deal();
        e.same("what waits", x.look(13), 0);
        for (int i = 0; i < 16; i++) {
            e.same("the last ones", x.view(0, 4000 - 16 + i), 0xBEEF >> i & 1);
        }
        for (int i = 1; i <= 31; i++) {
            x.draws(0, 64);
        }
        e.same("2000 again", x.draws(0, 16), 2000);
        Check.compile(x, "input a of 0:bit;");
        x.deal();
        e.same("one was drawn", x.look(13), 1999);
        e.same("2001", x.draws(0, 2), -1);
        e.same("2000", x.draws(1, 1), 2000);
    }

    private static void dealtBefore(Edges e) {
        ShareHouse x = e.built(SMALL);
        for (int brought : new int[] {0, 1, 4, 1000}) {
            e.holds("deal", x.deal());
            e.same("in flight", x.look(9), 2);
            e.same("delivered", x.look(10), 0);
            e.same("DONE", x.look(11), 0);
            for (int p = 0; p < 2; p++) {
                e.same("AT", x.party(p, 0), 0);
                e.same("came", x.party(p, 1), 0);
                e.same("VIEW", x.party(p, 2), 2 + 3 * x.look(2));
                e.same("no bit more", x.view(p, 2 + 3 * x.look(2)), -1);
                e.same("knows nothing", x.share(p, 0), -1);
                e.same("nothing told", x.told(p, 0), -1);
            }
            e.same("round", x.message(0, 2), 0);
            e.same("none more", x.message(2, 0), -1);
            x.rush(brought, 1);
        }
        // Wherever the one before it is left, some messages having come, some ahead of their round.
        for (int n : new int[] {2, 3, 5}) {
            e.use(n, 2);
            ShareHouse y = e.built(SMALL);
            ShareHouse z = e.built(SMALL);
            for (int brought = 0; brought < 3 * n * (n - 1); brought++) {
                y.deal();
                y.rush(brought, brought * 5);
                e.alikeDealt("a deal behind " + brought + " messages", y, z);
            }
        }
    }

    private static void noDeal(Edges e) {
        ShareHouse x = e.fresh();
        x.draws(-1, 9);
        e.holds("a new object", !x.deal());
        e.same("none is drawn", x.look(13), 9);
        e.same("nothing is dealt", x.look(12), 0);
        e.same("nothing in flight", x.look(9), 0);
        Check.compile(x, "input a of 0:int;output a*a;output 1<<8;");
        e.holds("a fault", !x.deal());
        e.same("none is drawn", x.look(13), 9);
        e.same("SEED", x.look(14), 1);
        e.same("compile", x.compile(), 0);
        e.holds("an empty circuit", x.deal());
    }

    // ---- Promises 13 to 15

    private static void message(Edges e) {
        e.use(16, 32);
        ShareHouse x = e.built("input a of 15:int[64];input b of 15:int[64];input c of 15:int[64];input d of 15:int[64];");
        x.deal();
        int last = 16 * 15 - 1;
        int[] due = {15, 14, 0, 256 * 32};
        for (int what = 0; what < 4; what++) {
            e.same("message(last, " + what + ")", x.message(last, what), due[what]);
        }
        e.same("its first bit", x.message(last, 4), x.view(15, 256 * 32 + 14));
        e.same("its last bit", x.message(last, 4 + 256 * 32 - 1), x.view(15, 256 * 32 + 256 * 32 * 15 - 1));
        e.same("no bit behind it", x.message(last, 4 + 256 * 32), -1);
        e.same("no bit of one that has none", x.message(0, 4), -1);
        e.same("how many", x.message(0, 3), 0);
    }

    private static void noMessage(Edges e) {
        e.use(3, 4);
        ShareHouse x = e.built("input a of 0:int;output a;");
        e.same("nothing dealt", x.message(0, 0), -1);
        x.deal();
        e.same("the last one", x.message(5, 0), 2);
        e.same("none behind it", x.message(6, 0), -1);
        for (int wrong : Edges.WRONG) {
            e.same("message(" + wrong + ", 0)", x.message(wrong, 0), -1);
            e.same("message(" + wrong + ", 4)", x.message(wrong, 4), -1);
            e.same("message(0, " + wrong + ")", x.message(0, wrong), -1);
        }
        e.same("what 8", x.message(0, 8), -1);
        e.holds("what 7", x.message(0, 7) >= 0);
        x.deliver(0);
        e.same("one less", x.message(5, 0), -1);
        x.rush(100, 0);
        e.same("none at all", x.message(0, 0), -1);
        e.same("without a circuit", e.fresh().message(0, 0), -1);
    }

    private static void allRounds(Edges e) {
        e.use(2, 4);
        ShareHouse x = e.built("input a of 0:bit;input b of 1:bit;output a&&b;");
        x.deal();
        e.same("0 to 1, round 0: it sends round 1", x.deliver(0), 1);
        e.same("1 to 0, round 1: it waits", x.deliver(1), 0);
        e.same("1 to 0, round 0: it sends rounds 1 and 2", x.deliver(0), 2);
        e.same("0 to 1, round 2: it waits", x.deliver(1), 0);
        e.same("0 to 1, round 1: it sends round 2, and is DONE", x.deliver(0), 1);
        e.same("DONE", x.look(11), 1);
        e.same("1 to 0, round 2: it is DONE, and sends none", x.deliver(0), 0);
        e.same("DONE", x.look(11), 2);
        // Without ANDs and outputs too there are two rounds.
        ShareHouse y = e.built("");
        y.deal();
        e.same("0 to 1", y.deliver(0), 1);
        e.same("1 to 0 of round 1", y.deliver(1), 0);
        e.same("1 to 0: round 1, and it is DONE", y.deliver(0), 1);
        e.same("the last one", y.deliver(0), 0);
    }

    private static void noDeliver(Edges e) {
        ShareHouse x = e.fresh();
        e.same("without a circuit", x.deliver(0), -1);
        Check.compile(x, SMALL);
        e.same("nothing dealt", x.deliver(0), -1);
        x.deal();
        for (int wrong : Edges.WRONG) {
            e.same("deliver(" + wrong + ")", x.deliver(wrong), -1);
        }
        e.same("deliver(2)", x.deliver(2), -1);
        e.same("nothing came", x.look(10), 0);
        e.holds("deliver(1)", x.deliver(1) >= 0);
        Edges.finish(x);
        e.same("none left", x.deliver(0), -1);
    }

    private static void atMost(Edges e) {
        for (int by : new int[] {0, 1, 2, 5, 6, 7, 100, Integer.MAX_VALUE, Integer.MAX_VALUE - 1}) {
            e.use(3, 2);
            String text = "input a of 0:int;input b of 1:int;output a*b+a;";
            ShareHouse x = e.built(text);
            ShareHouse y = e.built(text);
            x.deal();
            y.deal();
            int all = 6 * (x.look(3) + 2);
            for (int left = all, n = 0; left > 0; left -= n, n++) {
                int due = Math.min(left, n);
                e.same("rush(" + n + ", " + by + ")", x.rush(n, by), due);
                for (int i = 0; i < due; i++) {
                    y.deliver(by % y.look(9));
                }
                e.same("in flight", x.look(9), y.look(9));
                for (int k = 0; k < y.look(9); k++) {
                    for (int what = 0; what < 3; what++) {
                        e.same("message(" + k + ", " + what + ")", x.message(k, what), y.message(k, what));
                    }
                }
                for (int p = 0; p < 3; p++) {
                    for (int i = 0; i <= y.party(p, 2); i++) {
                        e.same("view(" + p + ", " + i + ")", x.view(p, i), y.view(p, i));
                    }
                }
            }
            e.same("none left", x.rush(100_000, by), 0);
        }
    }

    private static void noRush(Edges e) {
        ShareHouse x = e.built(SMALL);
        e.same("nothing dealt", x.rush(5, 5), 0);
        e.same("nothing dealt, n -1", x.rush(-1, 0), -1);
        x.deal();
        for (int n : new int[] {-1, Integer.MIN_VALUE, 100_001, Integer.MAX_VALUE}) {
            e.same("rush(" + n + ", 0)", x.rush(n, 0), -1);
        }
        for (int by : new int[] {-1, -2, Integer.MIN_VALUE}) {
            e.same("rush(1, " + by + ")", x.rush(1, by), -1);
            e.same("rush(0, " + by + ")", x.rush(0, by), -1);
        }
        e.same("nothing came", x.look(10), 0);
        e.same("rush(0, 0)", x.rush(0, 0), 0);
        e.same("rush(0, MAX)", x.rush(0, Integer.MAX_VALUE), 0);
        e.same("nothing came", x.look(10), 0);
        e.same("rush(100000, 0)", x.rush(100_000, 0), 2 * (x.look(3) + 2));
        e.same("without a circuit", e.fresh().rush(100_000, 7), 0);
    }

    // ---- Promises 16 to 21

    private static void partyDone(Edges e) {
        for (int n : new int[] {2, 3, 16}) {
            e.use(n, 4);
            ShareHouse x = e.built("input a of 0:int;input b of 1:int;output a<b;output a;");
            x.deal();
            int d = x.look(3);
            int bits = n * 4 + 3 * x.look(2);
            for (int round = 0; round <= d + 2; round++) {
                for (int p = 0; p < n; p++) {
                    e.same("AT", x.party(p, 0), round);
                    e.same("messages that came", x.party(p, 1), round * (n - 1));
                }
                int came = round == 0 ? 0 : 4;
                int ands = 2 * (n - 1) * Math.max(0, Math.min(round, d + 1) - 1);
                int outputs = round == d + 2 ? 5 * (n - 1) : 0;
                // ANDs lie one in each LEVEL.
                e.same("bits of the VIEW of 0", x.party(0, 2), bits + came + ands + outputs);
                x.rush(n * (n - 1), 0);
            }
        }
    }

    private static void noParty(Edges e) {
        e.use(3, 4);
        ShareHouse x = e.built(SMALL);
        for (int what = 0; what < 3; what++) {
            e.same("nothing dealt", x.party(0, what), -1);
        }
        x.deal();
        for (int what = 0; what < 3; what++) {
            e.holds("the last one", x.party(2, what) >= 0);
            e.same("none behind it", x.party(3, what), -1);
            for (int wrong : Edges.WRONG) {
                e.same("party(" + wrong + ", " + what + ")", x.party(wrong, what), -1);
                e.same("party(0, " + wrong + ")", x.party(0, wrong), -1);
            }
        }
        e.same("what 3", x.party(0, 3), -1);
        e.same("without a circuit", e.fresh().party(0, 0), -1);
    }

    private static void noAnd(Edges e) {
        e.use(3, 1);
        ShareHouse x = e.built(SMALL);
        e.same("nothing dealt", x.dealt(0, 0, 0), -1);
        x.deal();
        for (int what = 0; what < 3; what++) {
            e.holds("an AND", x.dealt(2, 0, what) >= 0);
            e.same("an XOR", x.dealt(2, 1, what), -1);
            e.holds("the last one", x.dealt(0, 2, what) >= 0);
            e.same("no such gate", x.dealt(0, x.look(1), what), -1);
            e.same("no such party", x.dealt(3, 0, what), -1);
            for (int wrong : Edges.WRONG) {
                e.same("dealt(" + wrong + ", 0, " + what + ")", x.dealt(wrong, 0, what), -1);
                e.same("dealt(0, " + wrong + ", " + what + ")", x.dealt(0, wrong, what), -1);
                e.same("dealt(0, 0, " + wrong + ")", x.dealt(0, 0, wrong), -1);
            }
        }
        e.same("what 3", x.dealt(0, 0, 3), -1);
        e.same("without a circuit", e.fresh().dealt(0, 0, 0), -1);
    }

    private static void noShare(Edges e) {
        e.use(2, 1);
        ShareHouse x = e.built("input a of 0:bit;input b of 1:bit;output a&&b;");
        e.same("nothing dealt", x.share(0, 0), -1);
        x.deal();
        for (int w = 0; w < 4; w++) {
            e.same("not yet", x.share(0, w), -1);
        }
        x.rush(2, 0);
        e.holds("AT 1", x.share(0, 0) >= 0 && x.share(1, 1) >= 0);
        e.same("not yet", x.share(0, 2), -1);
        x.rush(2, 0);
        e.holds("AT 2", x.share(0, 2) >= 0);
        e.same("no such wire", x.share(0, 3), -1);
        e.same("no such party", x.share(2, 0), -1);
        for (int wrong : Edges.WRONG) {
            e.same("share(" + wrong + ", 0)", x.share(wrong, 0), -1);
            e.same("share(0, " + wrong + ")", x.share(0, wrong), -1);
        }
        Check.compile(x, SMALL);
        e.same("dealt no more", x.share(0, 0), -1);
        e.same("without a circuit", e.fresh().share(0, 0), -1);
    }

    private static void noView(Edges e) {
        e.use(3, 2);
        ShareHouse x = e.built("input a of 1:int;output a&1;");
        e.same("nothing dealt", x.view(0, 0), -1);
        x.deal();
        e.same("none of a party without inputs and ANDs", x.view(0, 0), -1);
        e.holds("the last one", x.view(1, 5) >= 0);
        e.same("none behind it", x.view(1, 6), -1);
        x.deliver(2);
        e.holds("what came", x.view(0, 0) >= 0 && x.view(0, 1) >= 0);
        e.same("none behind it", x.view(0, 2), -1);
        e.same("no such party", x.view(3, 0), -1);
        for (int wrong : Edges.WRONG) {
            e.same("view(" + wrong + ", 0)", x.view(wrong, 0), -1);
            e.same("view(1, " + wrong + ")", x.view(1, wrong), -1);
        }
        e.same("without a circuit", e.fresh().view(0, 0), -1);
    }

    private static void noTold(Edges e) {
        e.use(2, 32);
        ShareHouse x = e.built("input a of 0:int;output a;output true;output -1;");
        e.same("nothing dealt", x.told(0, 0), -1);
        x.give(0, -1);
        x.deal();
        e.same("not DONE", x.told(0, 0), -1);
        x.rush(2, 0);
        e.same("AT the last round", x.told(0, 0), -1);
        // Party 1 was the first to go on to it.
        x.deliver(0);
        e.same("1 to 0: 0 is DONE", x.told(0, 0), 4294967295L);
        e.same("1 is not", x.told(1, 0), -1);
        x.deliver(0);
        e.same("without sign", x.told(1, 0), 4294967295L);
        e.same("a bit", x.told(0, 1), 1);
        e.same("the last one", x.told(1, 2), 4294967295L);
        e.same("none behind it", x.told(1, 3), -1);
        e.same("no such party", x.told(2, 0), -1);
        for (int wrong : Edges.WRONG) {
            e.same("told(" + wrong + ", 0)", x.told(wrong, 0), -1);
            e.same("told(0, " + wrong + ")", x.told(0, wrong), -1);
        }
        ShareHouse y = e.built("");
        y.deal();
        Edges.finish(y);
        e.same("no output", y.told(0, 0), -1);
        e.same("without a circuit", e.fresh().told(0, 0), -1);
    }

    private static void latestDeal(Edges e) {
        e.use(2, 32);
        ShareHouse x = e.built("input a of 0:int;input p of 1:bit;output a;output p;output a+1;");
        e.same("as told: 0", x.truth(0), 0);
        x.give(0, -1);
        e.same("without sign", x.truth(0), 4294967295L);
        e.same("modulo 2^32", x.truth(2), 0);
        x.give(1, 1);
        e.same("as told", x.truth(1), 1);
        x.give(0, 7);
        e.same("as told", x.truth(0), 7);
        x.deal();
        e.same("as dealt", x.truth(0), 7);
        x.give(0, 8);
        e.same("as dealt still", x.truth(0), 7);
        e.same("as dealt still", x.truth(2), 8);
        x.rush(1000, 0);
        e.same("as dealt still", x.truth(0), 7);
        x.deal();
        e.same("of the latest deal", x.truth(0), 8);
        x.deal();
        x.give(0, 9);
        e.same("of the latest deal, though another one is told", x.truth(0), 8);
        Check.compile(x, "input a of 0:int;output a;");
        e.same("nothing dealt", x.truth(0), 0);
        x.give(0, 3);
        e.same("as told", x.truth(0), 3);
    }

    private static void noTruth(Edges e) {
        ShareHouse x = e.built(SMALL);
        e.holds("the last one", x.truth(6) >= 0);
        e.same("none behind it", x.truth(7), -1);
        for (int wrong : Edges.WRONG) {
            e.same("truth(" + wrong + ")", x.truth(wrong), -1);
        }
        e.same("no output", e.built("input a of 0:int;").truth(0), -1);
        e.same("without a circuit", e.fresh().truth(0), -1);
        Check.compile(x, "output 1");
        e.same("behind a fault", x.truth(0), -1);
    }

    /** No arguments in any state make a call throw, or change what they should not. */
    private static void anyState(Edges e) {
        int[] odd = {-1, 0, 1, 2, 3, 5, 15, 16, 20, 21, 63, 64, 65, 255, 256, 4000, 40_000, 100_000, 100_001, Integer.MIN_VALUE,
            Integer.MAX_VALUE, -2, 1 << 30, 1 << 16};
        for (int state = 0; state < 6; state++) {
            ShareHouse x = e.fresh();
            if (state > 0) {
                Check.compile(x, state == 1 ? "output 1<<9;" : SMALL);
            }
            if (state > 2) {
                x.deal();
                x.rush(state == 3 ? 0 : state == 4 ? 3 : 1000, 1);
            }
            int calm = x.look(9) + 100 * x.look(10) + 1000 * x.look(12);
            for (int i : odd) {
                for (int j : odd) {
                    x.look(i);
                    x.gate(i, j);
                    x.literal(i, j);
                    x.input(i, j);
                    x.message(i, j);
                    x.party(i, j);
                    x.share(i, j);
                    x.view(i, j);
                    x.told(i, j);
                    x.truth(i);
                    for (int k : odd) {
                        x.dealt(i, j, k);
                    }
                }
                x.give(i, i);
                x.seed(i);
                x.draws(i, i);
                x.feed(i, i, i, i, i);
                x.end(i);
            }
            e.same("state " + state, x.look(9) + 100 * x.look(10) + 1000 * x.look(12), calm);
            for (int i : odd) {
                x.deliver(i);
                x.rush(i, i);
                x.rush(i, 0);
                x.rush(1, i);
            }
            e.same("all came, state " + state, x.look(9), 0);
        }
    }
}
