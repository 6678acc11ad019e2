/** Each promise by hand: ordinary inputs, the edges that the document names, and wrong inputs. */
public final class PromiseTest {
    private static final Check CHECK = new Check("PromiseTest");
    private static final int[] WRONG = {-1, Integer.MIN_VALUE, Integer.MAX_VALUE, -2, -1000, 1 << 30};

    /** Wires: 0 a, 1 b, 2 a AND b, 3 a XOR b, 4 NOT a AND NOT b. */
    private static final String SMALL = "input a of 0:bit; input b of 1:bit; output a && b; output a ^ b;"
        + "output a || b; output true;";

    public static void main(String[] args) {
        newObject();
        feed();
        end();
        compile();
        look();
        gate();
        literal();
        input();
        give();
        seed();
        draws();
        deal();
        message();
        deliver();
        rush();
        party();
        dealt();
        share();
        view();
        told();
        truth();
        nothingWithoutCircuit();
        CHECK.end();
    }

    private static void same(String call, long got, long due) {
        CHECK.same(call, got, due);
    }

    /** The small one with a = b = 1 and all of its draws told, so that every share is known by hand. */
    private static ShareHouse smallDealt() {
        ShareHouse x = Check.built(2, 4, SMALL);
        x.give(0, 1);
        x.give(1, 1);
        // a: 1; b: 0; first AND: a 1 0, b 1 1, c1 0; second one: a 0 1, b 0 0, c1 1.
        long bits = 0b1_00_10__0_11_01__0_1L;
        same("draws", x.draws(bits, 12), 12);
        x.deal();
        return x;
    }

    // ---- Promise 1

    private static void newObject() {
        ShareHouse x = new ShareHouse(3, 8);
        int[] due = {-1, -1, -1, -1, -1, -1, -1, -1, -1, 0, 0, 0, 0, 0, 1};
        for (int what = 0; what < due.length; what++) {
            same("new look(" + what + ")", x.look(what), due[what]);
        }
        same("new end(0)", x.end(0), 0);
        int[][] counts = {{0, 2}, {1, 2}, {2, 2}, {15, 15}, {16, 16}, {17, 16}, {-5, 2}, {Integer.MAX_VALUE, 16},
            {Integer.MIN_VALUE, 2}};
        for (int[] c : counts) {
            ShareHouse y = Check.built(c[0], 4, "");
            y.deal();
            same("messages of " + c[0] + " parties", y.look(9), (long) c[1] * (c[1] - 1));
            same("party of " + c[0], y.party(c[1] - 1, 0), 0);
            same("no party of " + c[0], y.party(c[1], 0), -1);
        }
        int[][] widths = {{0, 1}, {1, 1}, {2, 2}, {31, 31}, {32, 32}, {33, 32}, {-1, 1}, {Integer.MAX_VALUE, 32},
            {Integer.MIN_VALUE, 1}};
        for (int[] w : widths) {
            same("bits of width " + w[0], Check.built(2, w[0], "input a of 0:int;").look(4), w[1]);
        }
        same("NONE", ShareHouse.NONE, -1);
    }

    // ---- Promises 2 and 3

    private static void feed() {
        ShareHouse x = new ShareHouse(2, 8);
        same("zeros are no text", x.end(1), -1);
        x.feed(0x6F757470, 0x75742031, 0x3B206F75, 0x74707574, 0x20323B0A);
        same("end(20)", x.end(20), 20);
        same("compile", x.compile(), 0);
        same("look(6)", x.look(6), 2);
        same("truth(0)", x.truth(0), 1);
        same("truth(1)", x.truth(1), 2);
        x.feed(0x78787878, 0, 0, 0, 0);
        x.feed(0x6F757470, 0x75742033, 0x3B000000, 0, 0);
        same("the later feed counts", x.end(9), 9);
        same("compile", x.compile(), 0);
        same("truth(0)", x.truth(0), 3);
        x.feed(0x20202020, -1, 0, 0, 0);
        same("a byte of 255", x.end(5), -1);
        same("they stay", x.end(4), 4);
        same("they are 0 then", x.end(1), -1);
        x.feed(0x20202020, 0, 0, 0, 0);
        same("end(0) is a number", x.end(0), 4);
        same("and takes them all", x.end(1), -1);
    }

    private static void end() {
        ShareHouse x = new ShareHouse(2, 8);
        x.feed(0x20202020, 0x20202020, 0x20202020, 0x20202020, 0x20202020);
        for (int n : WRONG) {
            same("end(" + n + ")", x.end(n), -1);
        }
        same("end(21)", x.end(21), -1);
        same("end(20)", x.end(20), 20);
        for (int b = 0; b < 256; b++) {
            ShareHouse y = new ShareHouse(2, 8);
            y.feed(0x20200020 | b << 8, 0, 0, 0, 0);
            boolean text = b >= 32 && b <= 126 || b == 9 || b == 10;
            same("a byte " + b, y.end(4), text ? 4 : -1);
            same("a byte ahead of " + b, y.end(2), text ? -1 : 2);
        }
        ShareHouse y = new ShareHouse(2, 8);
        same("4000", Check.put(y, " ".repeat(4000)), 4000);
        y.feed(0x20202020, 0, 0, 0, 0);
        same("4001", y.end(1), -1);
        same("4000 + 0", y.end(0), 4000);
        same("compile", y.compile(), 0);
        same("empty then", y.end(0), 0);
        same("3990", Check.put(y, " ".repeat(3990)), 3990);
        y.feed(0x20202020, 0x20202020, 0x20202020, 0, 0);
        same("4001", y.end(11), -1);
        same("4000", y.end(10), 4000);
    }

    // ---- Promises 4 and 5: FaultTest has the FAULTS

    private static void compile() {
        ShareHouse x = smallDealt();
        x.rush(3, 0);
        same("a fault", Check.compile(x, "output 1 + ;"), 1);
        same("its place", x.look(0), 11);
        int[] due = {11, -1, -1, -1, -1, -1, -1, -1, -1, 0, 0, 0, 0};
        for (int what = 0; what < due.length; what++) {
            same("look(" + what + ") behind a fault", x.look(what), due[what]);
        }
        same("the tape is empty", x.end(0), 0);
        same("nothing is dealt", x.party(0, 0), -1);
        same("no input", x.input(0, 0), -1);
        same("empty program", x.compile(), 0);
        same("no place", x.look(0), -1);
        same("a circuit", x.look(12), 1);
        x = smallDealt();
        same("the same again", Check.compile(x, SMALL), 0);
        same("inputs are 0", x.input(0, 2), 0);
        same("nothing in flight", x.look(9), 0);
        same("nothing dealt", x.look(12), 1);
        same("no message", x.message(0, 0), -1);
        same("rush", x.rush(10, 0), 0);
        same("the meaning", x.truth(2), 0);
    }

    private static void look() {
        ShareHouse x = Check.built(2, 4, SMALL);
        int[] due = {-1, 3, 2, 1, 2, 2, 4, 12, 11, 0, 0, 0, 1, 0, 1};
        for (int what = 0; what < due.length; what++) {
            same("look(" + what + ")", x.look(what), due[what]);
        }
        for (int what : WRONG) {
            same("look(" + what + ")", x.look(what), -1);
        }
        same("look(15)", x.look(15), -1);
        x = smallDealt();
        x.deliver(1);
        same("look(9)", x.look(9), 2);
        same("look(10)", x.look(10), 1);
        same("look(11)", x.look(11), 0);
        same("look(12)", x.look(12), 2);
        x.rush(100, 0);
        same("look(9)", x.look(9), 0);
        same("look(10)", x.look(10), 6);
        same("look(11)", x.look(11), 2);
        x.deal();
        same("look(10) of a new deal", x.look(10), 0);
        same("look(11) of a new deal", x.look(11), 0);
        ShareHouse y = Check.built(3, 8, "input v of 2:int[5]; input p of 0:bit[3]; var s:int; output s; output p[1];");
        same("bits of inputs", y.look(4), 43);
        same("words of inputs", y.look(5), 8);
        same("words of outputs", y.look(6), 2);
        same("draws", y.look(7), 86);
        same("steps", y.look(8), 1 + 2 + 3);
    }

    // ---- Promises 6 to 9

    private static void gate() {
        ShareHouse x = Check.built(2, 4, SMALL);
        int[][] due = {{1, 1, 0, 2}, {0, 0, 0, 2}, {1, 1, 1, 3}};
        for (int g = 0; g < due.length; g++) {
            for (int what = 0; what < 4; what++) {
                same("gate(" + g + ", " + what + ")", x.gate(g, what), due[g][what]);
            }
            same("gate(" + g + ", 4)", x.gate(g, 4), -1);
        }
        same("gate(3, 0)", x.gate(3, 0), -1);
        for (int wrong : WRONG) {
            same("gate(" + wrong + ", 0)", x.gate(wrong, 0), -1);
            same("gate(0, " + wrong + ")", x.gate(0, wrong), -1);
        }
        // An XOR of turned ones is of the wires; a level goes through XORs.
        ShareHouse y = Check.built(2, 4, "input a of 0:bit[3]; output !a[0] ^ a[1]; output (a[0] & !a[1]) ^ a[2];"
            + "output ((a[0] & a[1]) ^ a[2]) & a[0];");
        same("gate(0, 2)", y.gate(0, 2), 0);
        same("gate(0, 3)", y.gate(0, 3), 2);
        same("literal(0, 0)", y.literal(0, 0), 7);
        same("gate(1, 3)", y.gate(1, 3), 3);
        same("gate(2, 1)", y.gate(2, 1), 1);
        same("gate(2, 2)", y.gate(2, 2), 8);
        same("gate(5, 1)", y.gate(5, 1), 2);
    }

    private static void literal() {
        ShareHouse x = Check.built(2, 4, SMALL + "output 6; output ~int(a); output bit(5, 1);");
        int[] due = {4, 6, 9, -1};
        for (int k = 0; k < due.length; k++) {
            same("literal(" + k + ", 0)", x.literal(k, 0), due[k]);
            same("literal(" + k + ", 1)", x.literal(k, 1), -3);
        }
        int[] six = {-2, -1, -1, -2, -3};
        int[] turned = {1, -1, -1, -1, -3};
        for (int j = 0; j < 5; j++) {
            same("literal(4, " + j + ")", x.literal(4, j), six[j]);
            same("literal(5, " + j + ")", x.literal(5, j), turned[j]);
        }
        same("literal(6, 0)", x.literal(6, 0), -2);
        same("literal(7, 0)", x.literal(7, 0), -3);
        for (int wrong : WRONG) {
            same("literal(" + wrong + ", 0)", x.literal(wrong, 0), -3);
            same("literal(0, " + wrong + ")", x.literal(0, wrong), -3);
        }
    }

    private static void input() {
        ShareHouse x = Check.built(3, 32, "input a of 2:int; input p of 0:bit[2]; input b of 1:int[2];");
        int[] owner = {2, 0, 0, 1, 1};
        int[] bits = {32, 1, 1, 32, 32};
        for (int w = 0; w < 5; w++) {
            same("input(" + w + ", 0)", x.input(w, 0), owner[w]);
            same("input(" + w + ", 1)", x.input(w, 1), bits[w]);
            same("input(" + w + ", 2)", x.input(w, 2), 0);
            same("input(" + w + ", 3)", x.input(w, 3), -1);
        }
        same("input(5, 0)", x.input(5, 0), -1);
        x.give(0, -1);
        same("without sign", x.input(0, 2), 4294967295L);
        for (int wrong : WRONG) {
            same("input(" + wrong + ", 0)", x.input(wrong, 0), -1);
            same("input(0, " + wrong + ")", x.input(0, wrong), -1);
        }
    }

    private static void give() {
        ShareHouse x = Check.built(2, 4, "input a of 0:int; input p of 1:bit; output a; output p;");
        CHECK.holds("give(0, 23)", x.give(0, 23));
        CHECK.holds("give(1, 6)", x.give(1, 6));
        same("its lowest bits", x.input(0, 2), 7);
        same("its lowest bit", x.input(1, 2), 0);
        CHECK.holds("give(1, -1)", x.give(1, -1));
        same("its lowest bit", x.input(1, 2), 1);
        CHECK.holds("no word 2", !x.give(2, 1));
        for (int wrong : WRONG) {
            CHECK.holds("no word " + wrong, !x.give(wrong, 1));
        }
        x.deal();
        x.give(0, 9);
        same("told", x.input(0, 2), 9);
        same("but not dealt", x.truth(0), 7);
        x.rush(100, 0);
        same("nor reckoned", x.told(1, 0), 7);
        x.deal();
        same("from the next deal on", x.truth(0), 9);
        x.rush(100, 0);
        same("told(0, 0)", x.told(0, 0), 9);
    }

    // ---- Promises 10 to 12

    private static void seed() {
        ShareHouse x = Check.built(2, 4, "input a of 0:int;");
        for (int s : new int[] {0, 1, -1, 5, Integer.MIN_VALUE, Integer.MAX_VALUE}) {
            x.seed(s);
            same("look(14)", x.look(14), s);
            x.deal();
            int now = s;
            for (int j = 0; j < 4; j++) {
                now = now * 1103515245 + 12345;
                same("draw " + j + " of seed " + s, x.view(0, 4 + j), now >> 16 & 1);
            }
            same("look(14) behind it", x.look(14), now);
        }
        Check.compile(x, "");
        x.seed(77);
        x.deal();
        same("no draw, no change", x.look(14), 77);
    }

    private static void draws() {
        ShareHouse x = new ShareHouse(2, 4);
        same("draws(0, 0)", x.draws(0, 0), 0);
        same("draws(-1, 64)", x.draws(-1, 64), 64);
        for (int wrong : WRONG) {
            same("draws(0, " + wrong + ")", x.draws(0, wrong), -1);
        }
        same("draws(0, 65)", x.draws(0, 65), -1);
        same("look(13)", x.look(13), 64);
        for (int i = 2; i <= 31; i++) {
            same("draws", x.draws(i, 64), 64 * i);
        }
        same("2001", x.draws(0, 17), -1);
        same("2000", x.draws(0, 16), 2000);
        same("and none more", x.draws(0, 1), -1);
        same("but none", x.draws(0, 0), 2000);
        Check.compile(x, "input a of 0:int[64];");
        x.deal();
        same("256 are drawn", x.look(13), 1744);
        same("and no seed", x.look(14), 1);
        for (int i = 0; i < 256; i++) {
            int due = i < 64 ? 1 : (int) (i / 64 + 1L >>> i % 64 & 1);
            same("draw " + i, x.view(0, 256 + i), due);
        }
        ShareHouse y = Check.built(2, 4, "input a of 0:int;");
        y.draws(0b10, 2);
        y.draws(0b1, 1);
        y.deal();
        int seed = 1103515245 + 12345;
        int[] due = {0, 1, 1, seed >> 16 & 1};
        for (int j = 0; j < 4; j++) {
            same("first what waits, then the seed: " + j, y.view(0, 4 + j), due[j]);
        }
        same("look(13)", y.look(13), 0);
        same("look(14)", y.look(14), seed);
        y.draws(0b101101, 6);
        y.deal();
        same("what is left waits on", y.look(13), 2);
        y.draws(0b1, 1);
        y.deal();
        int[] next = {0, 1, 1};
        for (int j = 0; j < 3; j++) {
            same("in order: " + j, y.view(0, 4 + j), next[j]);
        }
    }

    private static void deal() {
        ShareHouse x = new ShareHouse(2, 4);
        CHECK.holds("no circuit", !x.deal());
        Check.compile(x, "output");
        CHECK.holds("a fault", !x.deal());
        x = smallDealt();
        same("wire 0 of party 0", x.message(0, 4), 1);
        same("in flight", x.look(9), 2);
        x.rush(100, 0);
        int[][] due = {{0, 1}, {0, 1}, {1, 0}, {0, 0}, {1, 1}};
        for (int w = 0; w < due.length; w++) {
            same("share(0, " + w + ")", x.share(0, w), due[w][0]);
            same("share(1, " + w + ")", x.share(1, w), due[w][1]);
        }
        CHECK.holds("once more", x.deal());
        same("what was dealt is no more", x.look(10), 0);
        same("at round 0", x.party(1, 0), 0);
        same("in flight", x.look(9), 2);
        same("nothing came", x.party(0, 1), 0);
        same("nothing told", x.told(0, 0), -1);
        // The owner's share is what is left, whoever it is.
        ShareHouse y = Check.built(3, 2, "input a of 1:int;");
        y.give(0, 2);
        y.draws(0b0110, 4);
        y.deal();
        y.rush(1000, 0);
        int[][] shares = {{0, 1, 1}, {1, 0, 0}};
        for (int w = 0; w < 2; w++) {
            for (int p = 0; p < 3; p++) {
                same("share(" + p + ", " + w + ")", y.share(p, w), shares[w][p]);
            }
        }
    }

    // ---- Promises 13 to 15

    private static void message() {
        ShareHouse x = smallDealt();
        messageIs(x, 0, 0, 1, 0, 1);
        messageIs(x, 1, 1, 0, 0, 0);
        same("message(2, 0)", x.message(2, 0), -1);
        for (int wrong : WRONG) {
            same("message(" + wrong + ", 0)", x.message(wrong, 0), -1);
            same("message(0, " + wrong + ")", x.message(0, wrong), -1);
        }
        x.deliver(0);
        messageIs(x, 0, 1, 0, 0, 0);
        messageIs(x, 1, 1, 0, 1, 1, 0, 0, 1);
        x.deliver(0);
        messageIs(x, 1, 0, 1, 1, 1, 1, 1, 1);
        x.deliver(0);
        messageIs(x, 1, 0, 1, 2, 1, 0, 0, 1);
        x.deliver(0);
        messageIs(x, 1, 1, 0, 2, 0, 0, 1, 0);
        x.rush(9, 0);
        same("none in flight", x.message(0, 0), -1);
        // All send, party 0 first, each to the others by their numbers; perhaps no bit at all.
        ShareHouse y = Check.built(4, 8, "input a of 2:int; input p of 2:bit;");
        y.deal();
        int k = 0;
        for (int from = 0; from < 4; from++) {
            for (int to = 0; to < 4; to++) {
                if (from != to) {
                    same("from of " + k, y.message(k, 0), from);
                    same("to of " + k, y.message(k, 1), to);
                    same("bits of " + k, y.message(k, 3), from == 2 ? 9 : 0);
                    same("no bit behind the last of " + k, y.message(k, from == 2 ? 13 : 4), -1);
                    k++;
                }
            }
        }
    }

    private static void messageIs(ShareHouse x, int k, int from, int to, int round, int... bits) {
        same("from of " + k, x.message(k, 0), from);
        same("to of " + k, x.message(k, 1), to);
        same("round of " + k, x.message(k, 2), round);
        same("bits of " + k, x.message(k, 3), bits.length);
        for (int i = 0; i < bits.length; i++) {
            same("bit " + i + " of " + k, x.message(k, 4 + i), bits[i]);
        }
        same("no bit more of " + k, x.message(k, 4 + bits.length), -1);
    }

    private static void deliver() {
        ShareHouse x = Check.built(3, 4, SMALL);
        same("nothing dealt", x.deliver(0), -1);
        x.deal();
        for (int wrong : WRONG) {
            same("deliver(" + wrong + ")", x.deliver(wrong), -1);
        }
        same("deliver(6)", x.deliver(6), -1);
        // 0-1 0-2 1-0 1-2 2-0 2-1
        same("0 to 1", x.deliver(0), 0);
        same("2 to 1: it goes on", x.deliver(4), 2);
        // 0-2 1-0 1-2 2-0 1-0' 1-2'
        same("round of 4", x.message(4, 2), 1);
        same("1 to 0, of round 1: it waits", x.deliver(4), 0);
        same("at 0 still", x.party(0, 0), 0);
        // 0-2 1-0 1-2 2-0 1-2'
        same("0 to 2", x.deliver(0), 0);
        same("1 to 2: it goes on", x.deliver(1), 2);
        // 1-0 2-0 1-2' 2-0' 2-1'
        same("2 to 0, of round 1", x.deliver(3), 0);
        same("1 to 0", x.deliver(0), 0);
        same("2 to 0: on by two rounds", x.deliver(0), 4);
        same("at 2", x.party(0, 0), 2);
        // 1-2' 2-1' 0-1' 0-2' 0-1'' 0-2''
        same("in flight", x.look(9), 6);
        same("round of 4", x.message(4, 2), 2);
        same("the rest", x.rush(100, 5), 10);
        same("all are done", x.look(11), 3);
        same("none left", x.deliver(0), -1);
    }

    private static void rush() {
        ShareHouse x = smallDealt();
        same("rush(-1, 0)", x.rush(-1, 0), -1);
        same("rush(0, -1)", x.rush(0, -1), -1);
        same("rush(100001, 0)", x.rush(100001, 0), -1);
        same("rush(MIN, 0)", x.rush(Integer.MIN_VALUE, 0), -1);
        same("rush(1, MIN)", x.rush(1, Integer.MIN_VALUE), -1);
        same("rush(0, 0)", x.rush(0, 0), 0);
        same("nothing came", x.look(10), 0);
        same("rush(1, 3)", x.rush(1, 3), 1);
        same("number 3 modulo 2", x.party(0, 1), 1);
        same("rush(100000, MAX)", x.rush(100000, Integer.MAX_VALUE), 5);
        same("rush on", x.rush(5, 0), 0);
        ShareHouse y = Check.built(5, 8, "input a of 3:int; input b of 4:int; output a * b - (a == b ? b : a);");
        ShareHouse z = Check.built(5, 8, "input a of 3:int; input b of 4:int; output a * b - (a == b ? b : a);");
        y.deal();
        z.deal();
        for (int n = 1; n < 40; n++) {
            int by = n * 7919;
            int brought = 0;
            while (brought < n && z.look(9) > 0) {
                z.deliver(by % z.look(9));
                brought++;
            }
            same("rush", y.rush(n, by), brought);
            for (int p = 0; p < 5; p++) {
                same("round of " + p, y.party(p, 0), z.party(p, 0));
                same("bits of " + p, y.party(p, 2), z.party(p, 2));
            }
        }
    }

    // ---- Promises 16 to 21

    private static void party() {
        ShareHouse x = Check.built(2, 4, SMALL);
        same("nothing dealt", x.party(0, 0), -1);
        x = smallDealt();
        int[] fresh = {0, 0, 8};
        for (int what = 0; what < 3; what++) {
            same("party(0, " + what + ")", x.party(0, what), fresh[what]);
            same("party(1, " + what + ")", x.party(1, what), fresh[what]);
        }
        x.deliver(0);
        same("at 1", x.party(1, 0), 1);
        same("one came", x.party(1, 1), 1);
        same("with a bit", x.party(1, 2), 9);
        x.rush(100, 0);
        int[] done = {3, 3, 17};
        for (int what = 0; what < 3; what++) {
            same("party(0, " + what + ")", x.party(0, what), done[what]);
        }
        same("party(2, 0)", x.party(2, 0), -1);
        same("party(0, 3)", x.party(0, 3), -1);
        for (int wrong : WRONG) {
            same("party(" + wrong + ", 0)", x.party(wrong, 0), -1);
            same("party(0, " + wrong + ")", x.party(0, wrong), -1);
        }
    }

    private static void dealt() {
        ShareHouse x = Check.built(2, 4, SMALL);
        same("nothing dealt", x.dealt(0, 0, 0), -1);
        x = smallDealt();
        int[][] due = {{1, 1, 0, 0, 0, 1}, {0, 1, 0, 1, 0, 1}};
        for (int p = 0; p < 2; p++) {
            for (int what = 0; what < 3; what++) {
                same("dealt(" + p + ", 0, " + what + ")", x.dealt(p, 0, what), due[p][what]);
                same("dealt(" + p + ", 2, " + what + ")", x.dealt(p, 2, what), due[p][3 + what]);
                same("an XOR", x.dealt(p, 1, what), -1);
            }
        }
        same("dealt(2, 0, 0)", x.dealt(2, 0, 0), -1);
        same("dealt(0, 3, 0)", x.dealt(0, 3, 0), -1);
        same("dealt(0, 0, 3)", x.dealt(0, 0, 3), -1);
        for (int wrong : WRONG) {
            same("dealt(" + wrong + ", 0, 0)", x.dealt(wrong, 0, 0), -1);
            same("dealt(0, " + wrong + ", 0)", x.dealt(0, wrong, 0), -1);
            same("dealt(0, 0, " + wrong + ")", x.dealt(0, 0, wrong), -1);
        }
    }

    private static void share() {
        ShareHouse x = Check.built(2, 4, SMALL);
        same("nothing dealt", x.share(0, 0), -1);
        x = smallDealt();
        same("not even of its own yet", x.share(0, 0), -1);
        x.deliver(0);
        same("AT round 1: an input", x.share(1, 0), 1);
        same("an XOR of LEVEL 0", x.share(1, 3), 0);
        same("an AND of LEVEL 1 not yet", x.share(1, 2), -1);
        same("the other one does not know", x.share(0, 3), -1);
        x.deliver(0);
        x.deliver(0);
        same("AT round 2", x.share(0, 2), 1);
        same("and the turned one", x.share(0, 4), 1);
        same("no wire 5", x.share(0, 5), -1);
        same("no party 2", x.share(2, 0), -1);
        for (int wrong : WRONG) {
            same("share(" + wrong + ", 0)", x.share(wrong, 0), -1);
            same("share(0, " + wrong + ")", x.share(0, wrong), -1);
        }
    }

    private static void view() {
        ShareHouse x = Check.built(2, 4, SMALL);
        same("nothing dealt", x.view(0, 0), -1);
        x = smallDealt();
        same("no message yet", x.view(0, 8), -1);
        x.rush(100, 0);
        int[][] due = {{1, 1, 1, 1, 0, 0, 0, 1, 0, 1, 0, 0, 1, 0, 0, 1, 0},
            {1, 0, 0, 1, 0, 1, 0, 1, 1, 1, 1, 1, 1, 1, 0, 0, 1}};
        for (int p = 0; p < 2; p++) {
            for (int i = 0; i < due[p].length; i++) {
                same("view(" + p + ", " + i + ")", x.view(p, i), due[p][i]);
            }
            same("view(" + p + ", 17)", x.view(p, 17), -1);
        }
        same("view(2, 0)", x.view(2, 0), -1);
        for (int wrong : WRONG) {
            same("view(" + wrong + ", 0)", x.view(wrong, 0), -1);
            same("view(0, " + wrong + ")", x.view(0, wrong), -1);
        }
        // As they came, not as they were sent: of 2's message first, then 1's.
        ShareHouse y = Check.built(3, 1, "input a of 1:int; input b of 2:int;");
        y.draws(0b01_10, 4);
        y.deal();
        same("2 to 0", y.message(4, 4), 1);
        same("1 to 0", y.message(2, 4), 0);
        y.deliver(4);
        y.deliver(2);
        same("first", y.view(0, 0), 1);
        same("then", y.view(0, 1), 0);
    }

    private static void told() {
        ShareHouse x = smallDealt();
        same("not done", x.told(0, 0), -1);
        x.rush(4, 0);
        same("sent all, not done", x.told(0, 0), -1);
        x.rush(1, 0);
        int[] due = {1, 0, 1, 1};
        int done = x.party(0, 0) == 3 ? 0 : 1;
        for (int k = 0; k < 4; k++) {
            same("told(" + done + ", " + k + ")", x.told(done, k), due[k]);
            same("told(" + (1 - done) + ", " + k + ")", x.told(1 - done, k), -1);
        }
        x.rush(1, 0);
        for (int k = 0; k < 4; k++) {
            same("told(" + (1 - done) + ", " + k + ")", x.told(1 - done, k), due[k]);
        }
        same("told(0, 4)", x.told(0, 4), -1);
        same("told(2, 0)", x.told(2, 0), -1);
        for (int wrong : WRONG) {
            same("told(" + wrong + ", 0)", x.told(wrong, 0), -1);
            same("told(0, " + wrong + ")", x.told(0, wrong), -1);
        }
        ShareHouse y = Check.built(2, 32, "input a of 0:int; output -a; output 4294967295;");
        y.give(0, 1);
        y.deal();
        y.rush(1000, 1);
        same("without sign", y.told(1, 0), 4294967295L);
        same("without sign", y.told(0, 1), 4294967295L);
    }

    private static void truth() {
        ShareHouse x = Check.built(2, 4, SMALL);
        x.give(0, 1);
        int[] due = {0, 1, 1, 1};
        for (int k = 0; k < 4; k++) {
            same("truth(" + k + ")", x.truth(k), due[k]);
        }
        same("truth(4)", x.truth(4), -1);
        for (int wrong : WRONG) {
            same("truth(" + wrong + ")", x.truth(wrong), -1);
        }
        x.deal();
        x.give(1, 1);
        same("as dealt", x.truth(0), 0);
        Check.compile(x, SMALL);
        same("as told", x.truth(0), 0);
        x.give(0, 1);
        x.give(1, 1);
        same("as told", x.truth(0), 1);
        meaning(32, 7, 3);
        meaning(32, -7, 3);
        meaning(32, 5, 0);
        meaning(32, Integer.MIN_VALUE, -1);
    }

    private static void meaning(int width, int a, int b) {
        String[] ops = {"+", "-", "*", "&", "|", "^", "/", "%", "<", "<=", ">", ">=", "==", "!="};
        StringBuilder text = new StringBuilder("input a of 0:int; input b of 1:int;");
        for (String op : ops) {
            text.append("output a ").append(op).append(" b;");
        }
        text.append("output -a; output ~a; output a << 3; output a >> 3; output a < b ? a : b;");
        ShareHouse x = Check.built(2, width, text.toString());
        x.give(0, a);
        x.give(1, b);
        int[] due = {a + b, a - b, a * b, a & b, a | b, a ^ b, b == 0 ? -1 : Integer.divideUnsigned(a, b),
            b == 0 ? a : Integer.remainderUnsigned(a, b), a < b ? 1 : 0, a <= b ? 1 : 0, a > b ? 1 : 0, a >= b ? 1 : 0,
            a == b ? 1 : 0, a != b ? 1 : 0, -a, ~a, a << 3, a >>> 3, Math.min(a, b)};
        for (int k = 0; k < due.length; k++) {
            same("truth(" + k + ") of " + a + ", " + b, x.truth(k), due[k] & 0xFFFFFFFFL);
        }
    }

    private static void nothingWithoutCircuit() {
        ShareHouse x = new ShareHouse(4, 4);
        Check.compile(x, "output 1 1;");
        same("gate", x.gate(0, 0), -1);
        same("literal", x.literal(0, 0), -3);
        same("input", x.input(0, 0), -1);
        CHECK.holds("give", !x.give(0, 0));
        CHECK.holds("deal", !x.deal());
        same("message", x.message(0, 0), -1);
        same("deliver", x.deliver(0), -1);
        same("rush", x.rush(1, 1), 0);
        same("party", x.party(0, 0), -1);
        same("dealt", x.dealt(0, 0, 0), -1);
        same("share", x.share(0, 0), -1);
        same("view", x.view(0, 0), -1);
        same("told", x.told(0, 0), -1);
        same("truth", x.truth(0), -1);
    }
}
