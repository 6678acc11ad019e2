import java.util.ArrayDeque;
import java.util.ArrayList;
import java.util.Deque;
import java.util.HashMap;
import java.util.List;
import java.util.Map;

/** The dealer and the parties of the document, each party reckoning from its own shares and messages alone. */
final class OracleTable {
    record Message(int from, int to, int round, List<Integer> bits) { }

    /** Draws that wait, and the SEED: they outlive a deal. */
    static final class Source {
        final Deque<Integer> waiting = new ArrayDeque<>();
        int seed = 1;

        int draw() {
            if (!waiting.isEmpty()) {
                return waiting.removeFirst();
            }
            seed = seed * 1103515245 + 12345;
            return seed >> 16 & 1;
        }
    }

    final class Party {
        final int number;
        int at;
        int came;
        final List<Integer> ownBits = new ArrayList<>();
        final List<Integer> drawnForOthers = new ArrayList<>();
        final List<Integer> heard = new ArrayList<>();
        /** Of each own input bit the share of each party. */
        final List<int[]> toGive = new ArrayList<>();
        final Map<Integer, int[]> triples = new HashMap<>();
        final Map<Integer, Integer> shares = new HashMap<>();
        final Map<Integer, Map<Integer, List<Integer>>> messages = new HashMap<>();
        List<Integer> outcome;

        Party(int number) {
            this.number = number;
        }

        private int shareOf(int x) {
            if (x == Oracle.ZERO) {
                return 0;
            }
            if (x == Oracle.ONE) {
                return number == 0 ? 1 : 0;
            }
            return shares.get(x / 2) ^ (number == 0 ? x % 2 : 0);
        }

        private List<Integer> masked(int level) {
            List<Integer> bits = new ArrayList<>();
            for (int g = 0; g < b.gates.size(); g++) {
                Oracle.Gate gate = b.gates.get(g);
                if (gate.and() && gate.level() == level) {
                    bits.add(shareOf(gate.x()) ^ triples.get(g)[0]);
                    bits.add(shareOf(gate.y()) ^ triples.get(g)[1]);
                }
            }
            return bits;
        }

        private List<Integer> outputShares() {
            List<Integer> bits = new ArrayList<>();
            for (int[] output : b.outputs) {
                for (int x : output) {
                    bits.add(shareOf(x));
                }
            }
            return bits;
        }

        int send() {
            for (int q = 0; q < n; q++) {
                if (q == number) {
                    continue;
                }
                List<Integer> bits = new ArrayList<>();
                if (at == 0) {
                    for (int[] s : toGive) {
                        bits.add(s[q]);
                    }
                } else {
                    bits = at <= depth ? masked(at) : outputShares();
                }
                flight.add(new Message(number, q, at, bits));
            }
            return n - 1;
        }

        int receive(Message m) {
            came++;
            heard.addAll(m.bits);
            messages.computeIfAbsent(m.round, r -> new HashMap<>()).put(m.from, m.bits);
            int sent = 0;
            while (at <= depth + 1 && messages.getOrDefault(at, Map.of()).size() == n - 1) {
                learn(messages.get(at));
                at++;
                if (at <= depth + 1) {
                    sent += send();
                }
            }
            return sent;
        }

        private void learn(Map<Integer, List<Integer>> from) {
            if (at == 0) {
                learnInputs(from);
                learnGates(0, List.of());
                return;
            }
            List<Integer> all = at <= depth ? masked(at) : outputShares();
            for (List<Integer> other : from.values()) {
                for (int i = 0; i < all.size(); i++) {
                    all.set(i, all.get(i) ^ other.get(i));
                }
            }
            if (at <= depth) {
                learnGates(at, all);
            } else {
                outcome = all;
            }
        }

        private void learnInputs(Map<Integer, List<Integer>> from) {
            int[] next = new int[n];
            for (int w = 0; w < b.inputBits; w++) {
                int owner = b.wireParty.get(w);
                int i = next[owner]++;
                shares.put(w, owner == number ? toGive.get(i)[number] : from.get(owner).get(i));
            }
        }

        private void learnGates(int level, List<Integer> all) {
            int i = 0;
            for (int g = 0; g < b.gates.size(); g++) {
                Oracle.Gate gate = b.gates.get(g);
                if (gate.level() != level) {
                    continue;
                }
                if (!gate.and()) {
                    shares.put(b.inputBits + g, shareOf(gate.x()) ^ shareOf(gate.y()));
                    continue;
                }
                int d = all.get(i++);
                int e = all.get(i++);
                int[] t = triples.get(g);
                int s = t[2];
                if (d == 1) {
                    s ^= t[1];
                }
                if (e == 1) {
                    s ^= t[0];
                }
                if (number == 0) {
                    s ^= d & e;
                }
                shares.put(b.inputBits + g, s);
            }
        }

        List<Integer> view() {
            List<Integer> all = new ArrayList<>(ownBits);
            all.addAll(drawnForOthers);
            for (int g = 0; g < b.gates.size(); g++) {
                if (triples.containsKey(g)) {
                    for (int bit : triples.get(g)) {
                        all.add(bit);
                    }
                }
            }
            all.addAll(heard);
            return all;
        }

        long told(int k) {
            int skip = 0;
            for (int i = 0; i < k; i++) {
                skip += b.outputs.get(i).length;
            }
            long value = 0;
            for (int j = 0; j < b.outputs.get(k).length; j++) {
                value |= (long) outcome.get(skip + j) << j;
            }
            return value;
        }
    }

    final int n;
    final Oracle.Built b;
    final int depth;
    final List<Message> flight = new ArrayList<>();
    final List<Party> parties = new ArrayList<>();
    int delivered;

    OracleTable(int n, Oracle.Built b, long[] inputs, Source source) {
        this.n = n;
        this.b = b;
        depth = b.depth();
        for (int p = 0; p < n; p++) {
            parties.add(new Party(p));
        }
        for (int w = 0; w < b.wordParty.size(); w++) {
            Party owner = parties.get(b.wordParty.get(w));
            for (int j = 0; j < b.wordBits.get(w); j++) {
                cutInput(owner, (int) (inputs[w] >> j & 1), source);
            }
        }
        for (int g = 0; g < b.gates.size(); g++) {
            if (b.gates.get(g).and()) {
                cutTriple(g, source);
            }
        }
        for (Party p : parties) {
            p.send();
        }
    }

    private void cutInput(Party owner, int bit, Source source) {
        int[] s = new int[n];
        int left = bit;
        for (int q = 0; q < n; q++) {
            if (q != owner.number) {
                s[q] = source.draw();
                left ^= s[q];
                owner.drawnForOthers.add(s[q]);
            }
        }
        s[owner.number] = left;
        owner.toGive.add(s);
        owner.ownBits.add(bit);
    }

    private void cutTriple(int g, Source source) {
        int[] all = new int[3];
        for (Party p : parties) {
            p.triples.put(g, new int[3]);
        }
        for (int which = 0; which < 3; which++) {
            for (Party p : parties) {
                if (which < 2 || p.number > 0) {
                    p.triples.get(g)[which] = source.draw();
                    all[which] ^= p.triples.get(g)[which];
                }
            }
        }
        parties.get(0).triples.get(g)[2] = all[2] ^ all[0] & all[1];
    }

    int deliver(int k) {
        Message m = flight.remove(k);
        delivered++;
        return parties.get(m.to).receive(m);
    }

    int done() {
        int count = 0;
        for (Party p : parties) {
            count += p.at == depth + 2 ? 1 : 0;
        }
        return count;
    }
}
