import java.util.List;
import java.util.Random;

/** ShareHouse beside the Oracle: every answer about one PROGRAM after another. */
final class Beside {
    private static final long MOST_WORK = 3_000_000;

    private final Check check;
    private final Random random;
    private final int parties;
    private final int width;
    private final ShareHouse house;
    private final OracleTable.Source source = new OracleTable.Source();

    Beside(Check check, Random random, int parties, int width) {
        this.check = check;
        this.random = random;
        this.parties = parties;
        this.width = width;
        house = new ShareHouse(parties, width);
    }

    /** The FAULT that was due. */
    int compare(String text) {
        Oracle oracle = new Oracle(parties, width);
        check.same("end", Check.put(house, text), text.length());
        int got = house.compile();
        Oracle.Built b;
        try {
            b = oracle.compile(text);
        } catch (Oracle.Fault due) {
            check.same("compile", got, due.number);
            check.same("look(0)", house.look(0), due.place);
            check.same("look(12)", house.look(12), 0);
            check.same("look(1)", house.look(1), -1);
            return due.number;
        }
        if (check.same("compile", got, 0)) {
            compareCircuit(b);
            compareDeals(oracle, b);
        }
        return 0;
    }

    private void compareCircuit(Oracle.Built b) {
        int[] due = {-1, b.gates.size(), b.ands(), b.depth(), b.inputBits, b.wordParty.size(), b.outputs.size(),
            b.inputBits * (parties - 1) + b.ands() * (3 * parties - 1), b.steps, 0, 0, 0, 1, source.waiting.size(),
            source.seed};
        for (int what = 0; what < due.length; what++) {
            check.same("look(" + what + ")", house.look(what), due[what]);
        }
        for (int g = 0; g < b.gates.size() && g < due[1]; g++) {
            Oracle.Gate gate = b.gates.get(g);
            check.same("gate(" + g + ", 0)", house.gate(g, 0), gate.and() ? 1 : 0);
            check.same("gate(" + g + ", 1)", house.gate(g, 1), gate.level());
            check.same("gate(" + g + ", 2)", house.gate(g, 2), gate.x());
            check.same("gate(" + g + ", 3)", house.gate(g, 3), gate.y());
        }
        check.same("gate(" + due[1] + ", 0)", house.gate(due[1], 0), -1);
        for (int k = 0; k < b.outputs.size(); k++) {
            int[] bits = b.outputs.get(k);
            for (int j = 0; j < bits.length; j++) {
                check.same("literal(" + k + ", " + j + ")", house.literal(k, j), bits[j]);
            }
            check.same("literal(" + k + ", end)", house.literal(k, bits.length), -3);
        }
        for (int w = 0; w < b.wordParty.size(); w++) {
            check.same("input(" + w + ", 0)", house.input(w, 0), b.wordParty.get(w));
            check.same("input(" + w + ", 1)", house.input(w, 1), b.wordBits.get(w));
            check.same("input(" + w + ", 2)", house.input(w, 2), 0);
        }
    }

    private void give(Oracle.Built b, long[] inputs) {
        for (int w = 0; w < inputs.length; w++) {
            int v = random.nextInt(3) == 0 ? random.nextInt() : random.nextInt(12) - 2;
            check.holds("give(" + w + ", " + v + ")", house.give(w, v));
            inputs[w] = v & (1L << b.wordBits.get(w)) - 1;
            check.same("input(" + w + ", 2)", house.input(w, 2), inputs[w]);
        }
    }

    private void compareTruth(Oracle oracle, Oracle.Built b, long[] inputs) {
        List<Long> due = oracle.mean(b.items, inputs);
        for (int k = 0; k < due.size(); k++) {
            check.same("truth(" + k + ")", house.truth(k), due.get(k));
        }
    }

    private void compareDeals(Oracle oracle, Oracle.Built b) {
        long[] inputs = new long[b.wordParty.size()];
        compareTruth(oracle, b, inputs);
        give(b, inputs);
        compareTruth(oracle, b, inputs);
        if ((long) b.gates.size() * (b.depth() + 2) * parties > MOST_WORK) {
            return;
        }
        for (int deal = 0; deal < 1 + random.nextInt(2); deal++) {
            if (random.nextInt(3) == 0) {
                source.seed = random.nextInt();
                house.seed(source.seed);
            }
            int n = random.nextInt(65);
            long bits = random.nextLong();
            if (source.waiting.size() + n <= 2000) {
                for (int i = 0; i < n; i++) {
                    source.waiting.addLast((int) (bits >>> i & 1));
                }
                check.same("draws", house.draws(bits, n), source.waiting.size());
            }
            check.holds("deal", house.deal());
            OracleTable table = new OracleTable(parties, b, inputs, source);
            long[] dealt = inputs.clone();
            compareTable(b, table);
            if (random.nextBoolean()) {
                give(b, inputs);
            }
            compareTruth(oracle, b, dealt);
            playOn(b, table);
            compareTruth(oracle, b, dealt);
        }
    }

    private void playOn(Oracle.Built b, OracleTable table) {
        int style = random.nextInt(3);
        int looks = 0;
        while (!table.flight.isEmpty()) {
            if (random.nextInt(4) == 0) {
                int n = random.nextInt(30);
                int by = random.nextInt(3) == 0 ? random.nextInt(Integer.MAX_VALUE) : random.nextInt(8);
                int due = 0;
                while (due < n && !table.flight.isEmpty()) {
                    table.deliver(by % table.flight.size());
                    due++;
                }
                check.same("rush", house.rush(n, by), due);
            } else {
                int last = table.flight.size() - 1;
                int k = style == 0 ? 0 : style == 1 ? last : random.nextInt(last + 1);
                check.same("deliver(" + k + ")", house.deliver(k), table.deliver(k));
            }
            if (looks < 12 && random.nextInt(6) == 0) {
                looks++;
                compareTable(b, table);
            }
        }
        check.same("deliver(0)", house.deliver(0), -1);
        compareTable(b, table);
    }

    private void compareTable(Oracle.Built b, OracleTable table) {
        check.same("look(9)", house.look(9), table.flight.size());
        check.same("look(10)", house.look(10), table.delivered);
        check.same("look(11)", house.look(11), table.done());
        check.same("look(12)", house.look(12), 2);
        check.same("look(13)", house.look(13), source.waiting.size());
        check.same("look(14)", house.look(14), source.seed);
        for (int k = 0; k < table.flight.size(); k++) {
            OracleTable.Message m = table.flight.get(k);
            check.same("message(" + k + ", 0)", house.message(k, 0), m.from());
            check.same("message(" + k + ", 1)", house.message(k, 1), m.to());
            check.same("message(" + k + ", 2)", house.message(k, 2), m.round());
            check.same("message(" + k + ", 3)", house.message(k, 3), m.bits().size());
            for (int i = 0; i < m.bits().size(); i++) {
                check.same("message(" + k + ", " + (4 + i) + ")", house.message(k, 4 + i), m.bits().get(i));
            }
            check.same("message(" + k + ", end)", house.message(k, 4 + m.bits().size()), -1);
        }
        check.same("message(end, 0)", house.message(table.flight.size(), 0), -1);
        for (OracleTable.Party p : table.parties) {
            compareParty(b, table, p);
        }
    }

    private void compareParty(Oracle.Built b, OracleTable table, OracleTable.Party p) {
        check.same("party(" + p.number + ", 0)", house.party(p.number, 0), p.at);
        check.same("party(" + p.number + ", 1)", house.party(p.number, 1), p.came);
        List<Integer> view = p.view();
        check.same("party(" + p.number + ", 2)", house.party(p.number, 2), view.size());
        int step = 1 + view.size() / 200;
        for (int i = 0; i < view.size(); i += step) {
            check.same("view(" + p.number + ", " + i + ")", house.view(p.number, i), view.get(i));
        }
        check.same("view(" + p.number + ", end)", house.view(p.number, view.size()), -1);
        for (int w = 0; w < b.inputBits + b.gates.size(); w++) {
            check.same("share(" + p.number + ", " + w + ")", house.share(p.number, w), p.shares.getOrDefault(w, -1));
        }
        check.same("share(" + p.number + ", end)", house.share(p.number, b.inputBits + b.gates.size()), -1);
        for (int g = 0; g < b.gates.size(); g++) {
            for (int what = 0; what < 3; what++) {
                check.same("dealt(" + p.number + ", " + g + ", " + what + ")", house.dealt(p.number, g, what),
                    p.triples.containsKey(g) ? p.triples.get(g)[what] : -1);
            }
        }
        for (int k = 0; k < b.outputs.size(); k++) {
            check.same("told(" + p.number + ", " + k + ")", house.told(p.number, k), p.outcome == null ? -1 : p.told(k));
        }
    }
}
