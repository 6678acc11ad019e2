import java.util.ArrayList;
import java.util.List;
import java.util.Random;

/** The boundary cases of THE DEALER and THE PARTIES: one test for each sentence. */
public final class DealEdgesTest {
    public static void main(String[] args) {
        Edges edges = new Edges("DealEdgesTest", args);
        dealer(edges);
        rounds(edges);
        parties(edges);
        edges.end();
    }

    private static void dealer(Edges edges) {
        edges.of("waitingFirst", "DRAWS are bits: first those that were told and wait, then of the SEED",
            DealEdgesTest::waitingFirst);
        edges.of("seeds", "it becomes SEED * 1103515245 + 12345 (an int); the draw is its bit 16.", DealEdgesTest::seeds);
        edges.of("ownIsLeft", "the shares of the others are drawn, by their numbers, its own is what is left: all shares' XOR is "
            + "the bit.", DealEdgesTest::ownIsLeft);
        edges.of("triples", "Then for each AND, by GATES: N draws a_0 .., N draws b_0 .., N - 1 draws c_1 ..",
            DealEdgesTest::triples);
        edges.of("lastTriple", "c_0 is such that the XOR of all c is the AND of the XOR of all a and the XOR of all b.",
            DealEdgesTest::lastTriple);
        edges.of("noDraws", "To DEAL: for each bit of the inputs, in order", DealEdgesTest::noDraws);
    }

    private static void rounds(Edges edges) {
        edges.of("roundZero", "ROUND 0: each party sends each other one the share that is for it of each of its own input bits, in "
            + "order (perhaps none).", DealEdgesTest::roundZero);
        edges.of("roundsOfAnds", "ROUNDS 1 .. D, D being the highest LEVEL: for each AND of that LEVEL, by GATES: its share of the "
            + "first LITERAL XOR a, its share of the second one XOR b; to all others the same.", DealEdgesTest::roundsOfAnds);
        edges.of("noAnds", "ROUNDS 1 .. D, D being the highest LEVEL", DealEdgesTest::noAnds);
        edges.of("lastRound", "ROUND D + 1: its shares of all output bits, in order.", DealEdgesTest::lastRound);
        edges.of("turnedShares", "A party's share of a CONSTANT is that for party 0, else 0; of a turned wire party 0's share is "
            + "turned", DealEdgesTest::turnedShares);
        edges.of("sharesOfGates", "of an XOR the XOR of its shares; of an AND c, XOR b if d, XOR a if e, for party 0 XOR d AND e",
            DealEdgesTest::sharesOfGates);
    }

    private static void parties(Edges edges) {
        edges.of("atZero", "A party is AT round 0 first, when it has sent its messages.", DealEdgesTest::atZero);
        edges.of("allOthers", "When all others' messages of the round that it is AT have come, it goes on to the next one",
            DealEdgesTest::allOthers);
        edges.of("byNumbers", "it sends its messages to the others, by their numbers", DealEdgesTest::byNumbers);
        edges.of("done", "behind ROUND D + 1 it is DONE: the outcome is the XOR of all shares.", DealEdgesTest::done);
        edges.of("laterWait", "(Messages of a later round wait for it.)", DealEdgesTest::laterWait);
        edges.of("knows", "It knows its shares of the wires of LEVEL r when it is AT a round above r.", DealEdgesTest::knows);
        edges.of("partyZeroFirst", "At a deal all send ROUND 0, party 0 first.", DealEdgesTest::partyZeroFirst);
        edges.of("asSent", "Messages in flight are numbered 0, 1, .. as they were sent.", DealEdgesTest::asSent);
        edges.of("viewOrder", "A VIEW of a party: the bits of its inputs, in order; then for each of them the shares that were "
            + "drawn for the others, by their numbers; for each AND a, b, c of its own", DealEdgesTest::viewOrder);
        edges.of("viewCame", "then all messages that came to it, as they came, bit by bit.", DealEdgesTest::viewCame);
    }

    // ---- The dealer

    private static int nextSeed(int seed) {
        return seed * 1103515245 + 12345;
    }

    private static void waitingFirst(Edges e) {
        e.use(2, 8);
        for (int told = 0; told <= 10; told++) {
            ShareHouse x = e.built("input a of 0:int;");
            x.seed(99);
            e.same("draws", x.draws(0b01_1010_1101, told), told);
            x.deal();
            int seed = 99;
            for (int j = 0; j < 8; j++) {
                int due;
                if (j < told) {
                    due = 0b01_1010_1101 >> j & 1;
                } else {
                    seed = nextSeed(seed);
                    due = seed >> 16 & 1;
                }
                e.same("draw " + j + " with " + told + " told", x.view(0, 8 + j), due);
            }
            e.same("what waits still of " + told, x.look(13), Math.max(0, told - 8));
            e.same("SEED with " + told, x.look(14), seed);
        }
    }

    private static void seeds(Edges e) {
        e.use(2, 32);
        for (int s : new int[] {0, 1, -1, 12345, 65536, -65536, Integer.MAX_VALUE, Integer.MIN_VALUE, 1 << 30}) {
            ShareHouse x = e.built("input a of 1:int;");
            x.seed(s);
            x.deal();
            int seed = s;
            for (int j = 0; j < 32; j++) {
                seed = nextSeed(seed);
                e.same("draw " + j + " of seed " + s, x.view(1, 32 + j), seed >> 16 & 1);
            }
            e.same("SEED behind " + s, x.look(14), seed);
        }
        // Of a new object it is 1: 1103527590 has bit 16 set, the next one not.
        e.use(2, 1);
        ShareHouse x = e.built("input a of 0:int;");
        x.deal();
        e.same("SEED", x.look(14), 1103527590);
        e.same("draw", x.view(0, 1), 1103527590 >> 16 & 1);
    }

    private static void ownIsLeft(Edges e) {
        for (int n : new int[] {2, 3, 7, 16}) {
            e.use(n, 2);
            for (int owner = 0; owner < n; owner++) {
                for (int value = 0; value < 4; value++) {
                    ShareHouse x = e.built("input a of " + owner + ":int;");
                    x.give(0, value);
                    long bits = 0x5A3C_96E1_0F78_D2B4L >>> owner;
                    x.draws(bits, 2 * (n - 1));
                    x.deal();
                    e.same("what waits", x.look(13), 0);
                    Edges.finish(x);
                    for (int j = 0; j < 2; j++) {
                        int own = value >> j & 1;
                        for (int q = 0, d = 0; q < n; q++) {
                            if (q != owner) {
                                int due = (int) (bits >>> j * (n - 1) + d & 1);
                                e.same("share of " + q + " of " + n, x.share(q, j), due);
                                own ^= due;
                                d++;
                            }
                        }
                        e.same("share of the owner " + owner + " of " + n, x.share(owner, j), own);
                    }
                }
            }
        }
    }

    private static void triples(Edges e) {
        for (int n : new int[] {2, 3, 8, 16}) {
            e.use(n, 1);
            ShareHouse x = e.built("input a of 0:bit;input b of 1:bit;output a&b;output a^b;output (a&b)&a;");
            e.same("DRAWS", x.look(7), 2 * (n - 1) + 3 * (3 * n - 1));
            Random random = new Random(n);
            List<Integer> told = new ArrayList<>();
            for (int i = 0; i < x.look(7); i++) {
                int bit = random.nextInt(2);
                told.add(bit);
                x.draws(bit, 1);
            }
            x.deal();
            e.same("what waits", x.look(13), 0);
            int at = 2 * (n - 1);
            for (int g : new int[] {0, 2, 3}) {
                for (int p = 0; p < n; p++) {
                    e.same("a of " + p + " of " + n, x.dealt(p, g, 0), told.get(at + p));
                    e.same("b of " + p + " of " + n, x.dealt(p, g, 1), told.get(at + n + p));
                    if (p > 0) {
                        e.same("c of " + p + " of " + n, x.dealt(p, g, 2), told.get(at + 2 * n + p - 1));
                    }
                }
                at += 3 * n - 1;
            }
        }
    }

    private static void lastTriple(Edges e) {
        for (int n : new int[] {2, 3, 16}) {
            e.use(n, 8);
            ShareHouse x = e.built("input a of 0:int;input b of 1:int;output a*b;");
            x.deal();
            int[] seen = new int[4];
            for (int g = 0; g < x.look(1); g++) {
                if (x.gate(g, 0) == 1) {
                    int[] all = new int[3];
                    for (int p = 0; p < n; p++) {
                        for (int what = 0; what < 3; what++) {
                            all[what] ^= x.dealt(p, g, what);
                        }
                    }
                    e.same("XOR of all c of gate " + g + " of " + n, all[2], all[0] & all[1]);
                    seen[2 * all[0] + all[1]]++;
                }
            }
            e.holds("each of the four comes about", seen[0] > 0 && seen[1] > 0 && seen[2] > 0 && seen[3] > 0);
        }
    }

    private static void noDraws(Edges e) {
        ShareHouse x = e.built("output 1;");
        x.draws(-1, 5);
        x.seed(7);
        e.same("DRAWS of no input and no AND", x.look(7), 0);
        e.holds("deal", x.deal());
        e.same("what waits", x.look(13), 5);
        e.same("SEED", x.look(14), 7);
    }

    // ---- Rounds

    private static void roundZero(Edges e) {
        e.use(3, 2);
        ShareHouse x = e.built("input a of 2:int;input p of 0:bit;input b of 2:bit;");
        // a_0: shares of 0, 1; a_1: of 0, 1; p: of 1, 2; b: of 0, 1.
        x.draws(0b01_10_11_01, 8);
        x.deal();
        int[][] due = {{0, 1, 0}, {0, 2, 1}, {1, 0}, {1, 2}, {2, 0, 1, 1, 1}, {2, 1, 0, 1, 0}};
        for (int k = 0; k < due.length; k++) {
            e.same("from of " + k, x.message(k, 0), due[k][0]);
            e.same("to of " + k, x.message(k, 1), due[k][1]);
            e.same("round of " + k, x.message(k, 2), 0);
            e.same("bits of " + k, x.message(k, 3), due[k].length - 2);
            for (int i = 2; i < due[k].length; i++) {
                e.same("bit " + (i - 2) + " of " + k, x.message(k, 2 + i), due[k][i]);
            }
            e.same("no bit more of " + k, x.message(k, 2 + due[k].length), -1);
        }
    }

    /** Shares by hand: wires 0 and 1 are inputs, 2 their AND, 3 the AND of that and NOT wire 0, 4 another one of LEVEL 1. */
    private static final String ANDS = "input a of 0:bit;input b of 1:bit;output (a&b)&!a;output !b&a;output !a;output true;"
        + "output false;output a^b;output !(a^!b);";

    private static void roundsOfAnds(Edges e) {
        for (int n : new int[] {2, 3, 16}) {
            e.use(n, 1);
            for (int values = 0; values < 4; values++) {
                ShareHouse x = e.built(ANDS);
                x.give(0, values & 1);
                x.give(1, values >> 1);
                x.seed(n * 4 + values);
                x.deal();
                same(e, x, n, 1, new int[][] {{0, 0, 2}, {2, 3, 0}});
                same(e, x, n, 2, new int[][] {{1, 4, 1}});
            }
        }
    }

    private static void same(Edges e, ShareHouse x, int n, int round, int[][] ands) {
        x.rush(n * (n - 1), 0);
        e.same("all are AT the round", x.party(n - 1, 0), round);
        for (int k = 0; k < n * (n - 1); k++) {
            int from = x.message(k, 0);
            e.same("round of " + k, x.message(k, 2), round);
            e.same("bits of " + k, x.message(k, 3), 2 * ands.length);
            for (int i = 0; i < ands.length; i++) {
                for (int which = 0; which < 2; which++) {
                    int due = shareOf(x, from, ands[i][1 + which]) ^ x.dealt(from, ands[i][0], which);
                    e.same("bit " + (2 * i + which) + " of round " + round + " from " + from, x.message(k, 4 + 2 * i + which), due);
                }
            }
        }
    }

    /** By what is said of turned wires. */
    private static int shareOf(ShareHouse x, int p, int literal) {
        return literal < 0 ? (p == 0 ? literal & 1 : 0) : x.share(p, literal / 2) ^ (p == 0 ? literal & 1 : 0);
    }

    private static void noAnds(Edges e) {
        for (String text : new String[] {"", "output 1;", "input a of 0:bit;output a;", "input a of 0:bit[2];output a[0]^a[1];"}) {
            for (int n : new int[] {2, 4}) {
                e.use(n, 3);
                ShareHouse x = e.built(text);
                x.deal();
                e.same("D", x.look(3), 0);
                e.same("messages", x.rush(1000, 0), 2 * n * (n - 1));
                e.same("round when DONE", x.party(0, 0), 2);
                e.same("all are DONE", x.look(11), n);
            }
        }
        // A round for each LEVEL, however many ANDs it has.
        e.use(3, 8);
        ShareHouse x = e.built("input a of 0:int;input b of 1:int;output a<b;");
        x.deal();
        e.same("D", x.look(3), 8);
        e.same("messages", x.rush(1000, 0), 10 * 6);
        e.same("round when DONE", x.party(2, 0), 10);
    }

    private static void lastRound(Edges e) {
        for (int n : new int[] {2, 3, 16}) {
            e.use(n, 3);
            ShareHouse x = e.built("input a of 0:int;input p of 1:bit;output a;output p;output 5;output ~a;output a&a<<1;");
            x.give(0, 6);
            x.give(1, 1);
            x.deal();
            x.rush(2 * n * (n - 1), 0);
            for (int k = 0; k < n * (n - 1); k++) {
                int from = x.message(k, 0);
                e.same("round", x.message(k, 2), 2);
                e.same("bits", x.message(k, 3), 13);
                for (int i = 0, o = 0; o < 5; o++) {
                    for (int j = 0; j < 3 && x.literal(o, j) != -3; j++, i++) {
                        e.same("bit " + i + " from " + from, x.message(k, 4 + i), shareOf(x, from, x.literal(o, j)));
                    }
                }
                e.same("no bit more", x.message(k, 17), -1);
            }
            ShareHouse y = e.built("input a of 0:int;");
            y.deal();
            y.rush(n * (n - 1), 0);
            e.same("no output: round", y.message(0, 2), 1);
            e.same("no output: bits", y.message(0, 3), 0);
            e.same("no output: bit", y.message(0, 4), -1);
        }
    }

    private static void turnedShares(Edges e) {
        for (int n : new int[] {2, 5}) {
            e.use(n, 1);
            ShareHouse x = e.built("input a of 1:bit;output true;output false;output !a;output a;");
            x.deal();
            x.rush(n * (n - 1), 0);
            for (int k = 0; k < n * (n - 1); k++) {
                int from = x.message(k, 0);
                e.same("CONSTANT 1 of " + from, x.message(k, 4), from == 0 ? 1 : 0);
                e.same("CONSTANT 0 of " + from, x.message(k, 5), 0);
                e.same("turned of " + from, x.message(k, 6), x.share(from, 0) ^ (from == 0 ? 1 : 0));
                e.same("wire of " + from, x.message(k, 7), x.share(from, 0));
            }
        }
    }

    private static void sharesOfGates(Edges e) {
        for (int n : new int[] {2, 3, 16}) {
            e.use(n, 1);
            for (int values = 0; values < 16; values++) {
                ShareHouse x = e.built(ANDS);
                x.give(0, values & 1);
                x.give(1, values >> 1);
                x.seed(values * 31 + n);
                x.deal();
                Edges.finish(x);
                int[][] ands = {{0, 0, 2}, {1, 4, 1}, {2, 3, 0}};
                for (int[] and : ands) {
                    int d = 0;
                    int f = 0;
                    for (int p = 0; p < n; p++) {
                        d ^= shareOf(x, p, and[1]) ^ x.dealt(p, and[0], 0);
                        f ^= shareOf(x, p, and[2]) ^ x.dealt(p, and[0], 1);
                    }
                    for (int p = 0; p < n; p++) {
                        int due = x.dealt(p, and[0], 2) ^ d * x.dealt(p, and[0], 1) ^ f * x.dealt(p, and[0], 0)
                            ^ (p == 0 ? d * f : 0);
                        e.same("share of " + p + " of gate " + and[0], x.share(p, 2 + and[0]), due);
                    }
                }
                for (int p = 0; p < n; p++) {
                    e.same("share of " + p + " of an XOR", x.share(p, 5), x.share(p, 0) ^ x.share(p, 1));
                    e.same("share of " + p + " of turned ones", x.share(p, 6), x.share(p, 0) ^ x.share(p, 1));
                }
            }
        }
    }

    // ---- Parties

    private static void atZero(Edges e) {
        for (int n = 2; n <= 16; n++) {
            e.use(n, 1);
            ShareHouse x = e.built(ANDS);
            x.deal();
            e.same("messages in flight", x.look(9), n * (n - 1));
            for (int p = 0; p < n; p++) {
                e.same("AT of " + p, x.party(p, 0), 0);
                e.same("messages that came to " + p, x.party(p, 1), 0);
            }
            x.deal();
            e.same("messages in flight of the next deal", x.look(9), n * (n - 1));
        }
    }

    /** The number of the message in flight, or NONE. */
    private static int find(ShareHouse x, int from, int to, int round) {
        for (int k = 0; k < x.look(9); k++) {
            if (x.message(k, 0) == from && x.message(k, 1) == to && x.message(k, 2) == round) {
                return k;
            }
        }
        return -1;
    }

    private static void allOthers(Edges e) {
        for (int n : new int[] {2, 3, 4, 16}) {
            e.use(n, 1);
            for (int p = 0; p < n; p++) {
                ShareHouse x = e.built(ANDS);
                x.deal();
                int came = 0;
                for (int q = 0; q < n; q++) {
                    if (q != p) {
                        came++;
                        int sent = x.deliver(find(x, q, p, 0));
                        e.same("sent behind " + came + " of " + n, sent, came == n - 1 ? n - 1 : 0);
                        e.same("AT behind " + came + " of " + n, x.party(p, 0), came == n - 1 ? 1 : 0);
                    }
                }
                e.same("no message of a party to itself", find(x, p, p, 0), -1);
            }
        }
    }

    private static void byNumbers(Edges e) {
        e.use(5, 1);
        for (int p = 0; p < 5; p++) {
            ShareHouse x = e.built(ANDS);
            x.deal();
            for (int q = 4; q >= 0; q--) {
                if (q != p) {
                    x.deliver(find(x, q, p, 0));
                }
            }
            e.same("in flight", x.look(9), 20);
            int to = 0;
            for (int k = 16; k < 20; k++) {
                to += to == p ? 1 : 0;
                e.same("from of " + k, x.message(k, 0), p);
                e.same("to of " + k, x.message(k, 1), to);
                e.same("round of " + k, x.message(k, 2), 1);
                to++;
            }
        }
    }

    private static void done(Edges e) {
        for (int n : new int[] {2, 3, 16}) {
            e.use(n, 4);
            ShareHouse x = e.built("input a of 0:int;input b of 1:int;output a-b;output a==b;");
            x.give(0, 3);
            x.give(1, 5);
            x.deal();
            int d = x.look(3);
            x.rush((d + 1) * n * (n - 1), 0);
            e.same("AT the last round", x.party(0, 0), d + 1);
            e.same("none is DONE", x.look(11), 0);
            for (int p = 0; p < n; p++) {
                for (int q = 0, came = 0; q < n; q++) {
                    if (q != p) {
                        e.same("not DONE", x.told(p, 0), -1);
                        came++;
                        e.same("sent", x.deliver(find(x, q, p, d + 1)), 0);
                        e.same("AT", x.party(p, 0), came == n - 1 ? d + 2 : d + 1);
                    }
                }
                e.same("DONE", x.look(11), p + 1);
                e.same("told", x.told(p, 0), 14);
                e.same("told", x.told(p, 1), 0);
            }
            e.same("nothing in flight", x.look(9), 0);
            e.same("delivered", x.look(10), (d + 2) * n * (n - 1));
        }
    }

    private static void laterWait(Edges e) {
        e.use(3, 1);
        ShareHouse x = e.built(ANDS);
        x.deal();
        // 1 and 2 go on to round 1, whose messages come to 0 ahead of theirs of round 0.
        for (int[] m : new int[][] {{0, 1, 0}, {2, 1, 0}, {0, 2, 0}, {1, 2, 0}}) {
            x.deliver(find(x, m[0], m[1], m[2]));
        }
        e.same("AT", x.party(1, 0), 1);
        e.same("sent", x.deliver(find(x, 1, 0, 1)), 0);
        e.same("sent", x.deliver(find(x, 2, 0, 1)), 0);
        e.same("AT 0 still", x.party(0, 0), 0);
        e.same("two came", x.party(0, 1), 2);
        e.same("sent", x.deliver(find(x, 2, 0, 0)), 0);
        e.same("AT 0 still", x.party(0, 0), 0);
        e.same("on by two rounds", x.deliver(find(x, 1, 0, 0)), 4);
        e.same("AT 2", x.party(0, 0), 2);
        e.same("round 1 first", x.message(x.look(9) - 4, 2), 1);
        e.same("then round 2", x.message(x.look(9) - 1, 2), 2);
        // One of them early, the other one not: on by one round alone.
        x.deal();
        for (int[] m : new int[][] {{0, 1, 0}, {2, 1, 0}, {1, 0, 1}, {1, 0, 0}}) {
            x.deliver(find(x, m[0], m[1], m[2]));
        }
        e.same("on by one round", x.deliver(find(x, 2, 0, 0)), 2);
        e.same("AT 1", x.party(0, 0), 1);
        e.same("sent", x.deliver(find(x, 0, 2, 0)), 0);
        e.same("2 goes on", x.deliver(find(x, 1, 2, 0)), 2);
        e.same("0 goes on", x.deliver(find(x, 2, 0, 1)), 2);
        e.same("AT 2", x.party(0, 0), 2);
    }

    private static void knows(Edges e) {
        e.use(2, 1);
        ShareHouse x = e.built(ANDS);
        x.deal();
        // By wires: two inputs, ANDs of LEVELs 1, 2, 1, XORs of inputs.
        int[] levels = {0, 0, 1, 2, 1, 0, 0};
        for (int round = 0; round <= 4; round++) {
            for (int p = 0; p < 2; p++) {
                e.same("AT", x.party(p, 0), round);
                for (int w = 0; w < levels.length; w++) {
                    e.same("share(" + p + ", " + w + ") AT " + round + " is known", x.share(p, w) == -1 ? 0 : 1,
                        round > levels[w] ? 1 : 0);
                }
                e.same("no such wire", x.share(p, levels.length), -1);
            }
            x.rush(2, 0);
        }
        // One party may know more than the other.
        x.deal();
        x.deliver(0);
        e.holds("party 1 knows", x.share(1, 0) != -1);
        e.same("party 0 does not", x.share(0, 0), -1);
    }

    private static void partyZeroFirst(Edges e) {
        for (int n = 2; n <= 16; n++) {
            e.use(n, 1);
            ShareHouse x = e.built(ANDS);
            x.deal();
            int k = 0;
            for (int from = 0; from < n; from++) {
                for (int to = 0; to < n; to++) {
                    if (to != from) {
                        e.same("from of " + k, x.message(k, 0), from);
                        e.same("to of " + k, x.message(k, 1), to);
                        e.same("round of " + k, x.message(k, 2), 0);
                        k++;
                    }
                }
            }
            e.same("none more", x.message(k, 0), -1);
        }
    }

    private static void asSent(Edges e) {
        e.use(4, 1);
        ShareHouse x = e.built(ANDS);
        x.deal();
        Random random = new Random(5);
        List<Integer> flight = new ArrayList<>();
        for (int k = 0; k < x.look(9); k++) {
            flight.add(told(x, k));
        }
        for (int n = 0; n < 1000 && !flight.isEmpty(); n++) {
            int k = random.nextInt(3) == 0 ? flight.size() - 1 : random.nextInt(flight.size());
            int to = flight.remove(k) / 10 % 10;
            int at = x.party(to, 0);
            int sent = x.deliver(k);
            for (int i = 0, q = 0; i < sent; i++, q++) {
                q += q == to ? 1 : 0;
                flight.add(to + 10 * q + 100 * (at + 1 + i / 3));
                q = i % 3 == 2 ? -1 : q;
            }
            e.same("in flight", x.look(9), flight.size());
            for (int i = 0; i < flight.size(); i++) {
                e.same("message " + i, told(x, i), flight.get(i));
            }
        }
        e.same("all are DONE", x.look(11), 4);
    }

    private static int told(ShareHouse x, int k) {
        return x.message(k, 0) + 10 * x.message(k, 1) + 100 * x.message(k, 2);
    }

    private static void viewOrder(Edges e) {
        for (int n : new int[] {2, 3, 16}) {
            e.use(n, 2);
            ShareHouse x = e.built("input a of 1:int;input p of 0:bit;input b of 1:bit;output a&int(b);output p&&b;");
            x.give(0, 2);
            x.give(1, 1);
            x.give(2, 1);
            x.deal();
            int[] own = new int[16];
            own[0] = 1;
            own[1] = 3;
            int ands = 2;
            for (int p = 0; p < n; p++) {
                e.same("bits of the VIEW of " + p, x.party(p, 2), own[p] * n + 3 * ands);
                e.same("no bit behind it", x.view(p, own[p] * n + 3 * ands), -1);
            }
            int[] values = {0, 1, 1};
            for (int i = 0; i < 3; i++) {
                e.same("own bit " + i, x.view(1, i), values[i]);
            }
            e.same("own bit", x.view(0, 0), 1);
            int[] viewed = new int[3 * (n - 1)];
            for (int i = 0; i < viewed.length; i++) {
                viewed[i] = x.view(1, 3 + i);
            }
            for (int p = 0; p < n; p++) {
                for (int t = 0; t < ands; t++) {
                    for (int what = 0; what < 3; what++) {
                        e.same("dealt to " + p, x.view(p, own[p] * n + 3 * t + what), x.dealt(p, t, what));
                    }
                }
            }
            Edges.finish(x);
            int[] wires = {0, 1, 3};
            for (int i = 0; i < 3; i++) {
                for (int q = 0, d = 0; q < n; q++) {
                    if (q != 1) {
                        e.same("drawn for " + q, viewed[i * (n - 1) + d], x.share(q, wires[i]));
                        d++;
                    }
                }
            }
        }
    }

    private static void viewCame(Edges e) {
        e.use(4, 2);
        ShareHouse x = e.built("input a of 1:int;input b of 2:bit;output a+1;output b&&bit(a,0);output b;");
        x.give(0, 3);
        Random random = new Random(8);
        for (int deal = 0; deal < 3; deal++) {
            x.deal();
            List<List<Integer>> due = new ArrayList<>();
            for (int p = 0; p < 4; p++) {
                due.add(new ArrayList<>());
            }
            int[] begin = new int[4];
            for (int p = 0; p < 4; p++) {
                begin[p] = x.party(p, 2);
            }
            for (int n = 0; n < 1000 && x.look(9) > 0; n++) {
                int k = random.nextInt(x.look(9));
                int to = x.message(k, 1);
                for (int i = 0; i < x.message(k, 3); i++) {
                    due.get(to).add(x.message(k, 4 + i));
                }
                x.deliver(k);
                e.same("bits of the VIEW", x.party(to, 2), begin[to] + due.get(to).size());
                e.same("no bit behind them", x.view(to, begin[to] + due.get(to).size()), -1);
                if (n % 5 == 0 || x.look(9) == 0) {
                    for (int i = 0; i < due.get(to).size(); i++) {
                        e.same("bit that came", x.view(to, begin[to] + i), due.get(to).get(i));
                    }
                }
            }
        }
    }
}
