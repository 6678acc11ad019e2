import java.util.List;
import java.util.function.Consumer;

/**
 * Boundary cases: one test for each sentence of the document that names one. A test that fails is told with its
 * sentence. The arguments of a main method that uses it may name the tests to run; "list" tells the sentences alone.
 */
final class Edges {
    /** Far off, or just beside what there is. */
    static final int[] WRONG = {-1, -2, -1000, Integer.MIN_VALUE, Integer.MIN_VALUE + 1, Integer.MAX_VALUE,
        Integer.MAX_VALUE - 3, 1 << 30, 1 << 16};

    private static final long MOST_MILLISECONDS = 120_000;

    private final String name;
    private final Check check;
    private final List<String> wanted;
    private int parties;
    private int width;

    Edges(String name, String[] wanted) {
        this.name = name;
        this.check = new Check(name);
        this.wanted = List.of(wanted);
    }

    /** Runs the test of a sentence, which stands in the document word by word. */
    void of(String key, String sentence, Consumer<Edges> test) {
        if (wanted.contains("list")) {
            System.out.println(name + "\t" + key + "\t" + sentence);
            return;
        }
        if (!wanted.isEmpty() && !wanted.contains(key)) {
            return;
        }
        use(2, 8);
        int before = check.wrong();
        boolean ended = ends(() -> test.accept(this));
        check.holds(key + " ends", ended);
        if (check.wrong() > before) {
            System.out.println(name + ": broken " + key + ": \"" + sentence + "\"");
        }
        if (!ended) {
            System.exit(1);
        }
    }

    /** A call that does not end must not hold up all the others. */
    private boolean ends(Runnable test) {
        Thread thread = new Thread(test, name);
        thread.setDaemon(true);
        thread.setUncaughtExceptionHandler((t, e) -> check.holds("without " + e, false));
        thread.start();
        try {
            thread.join(MOST_MILLISECONDS);
        } catch (InterruptedException e) {
            return false;
        }
        return !thread.isAlive();
    }

    void end() {
        if (!wanted.contains("list")) {
            check.end();
        }
    }

    /** The parties and the width of the objects that are made from here on. */
    void use(int newParties, int newWidth) {
        parties = newParties;
        width = newWidth;
    }

    void same(String call, long got, long due) {
        check.same(call, got, due);
    }

    void holds(String what, boolean is) {
        check.holds(what, is);
    }

    ShareHouse fresh() {
        return new ShareHouse(parties, width);
    }

    ShareHouse built(String text) {
        return Check.built(parties, width, text);
    }

    /** All that is in flight comes, whatever comes of it. */
    static void finish(ShareHouse house) {
        for (int n = 0; n < 10 && house.look(9) > 0; n++) {
            house.rush(100_000, 0);
        }
    }

    /** The text with an @ where the FAULT is told; a sound one has none. */
    void due(int fault, String... marked) {
        for (String text : marked) {
            int place = text.indexOf('@');
            dueAt(fault, place, place < 0 ? text : text.substring(0, place) + text.substring(place + 1));
        }
    }

    void dueAt(int fault, int place, String text) {
        ShareHouse house = fresh();
        String told = shown(text);
        same("end of " + told, Check.put(house, text), text.length());
        same("compile of " + told, house.compile(), fault);
        same("place in " + told, house.look(0), place);
        same("look(12) of " + told, house.look(12), fault == 0 ? 1 : 0);
    }

    void sound(String... texts) {
        due(0, texts);
    }

    /** What the outputs of a text are, with the inputs given: the truth, and what the first and last party are told. */
    ShareHouse outcome(String text, int[] inputs, long... due) {
        ShareHouse house = fresh();
        if (Check.compile(house, text) != 0) {
            holds("no fault " + " at " + house.look(0) + " of " + shown(text), false);
            return house;
        }
        for (int w = 0; w < inputs.length; w++) {
            holds("give(" + w + ") of " + shown(text), house.give(w, inputs[w]));
        }
        for (int k = 0; k < due.length; k++) {
            same("truth(" + k + ") of " + shown(text), house.truth(k), due[k]);
        }
        house.deal();
        finish(house);
        for (int k = 0; k < due.length; k++) {
            same("told(0, " + k + ") of " + shown(text), house.told(0, k), due[k]);
            same("told(last, " + k + ") of " + shown(text), house.told(parties - 1, k), due[k]);
        }
        same("outputs of " + shown(text), house.look(6), due.length);
        return house;
    }

    void value(String expr, long due) {
        outcome("output " + expr + ";", new int[0], due);
    }

    /** Each GATE as its kind (X or A), its LEVEL and its two LITERALS: "A1 0 4". */
    ShareHouse gates(String text, String... due) {
        ShareHouse house = fresh();
        same("compile of " + shown(text), Check.compile(house, text), 0);
        same("GATES of " + shown(text), house.look(1), due.length);
        int ands = 0;
        int depth = 0;
        for (int g = 0; g < due.length; g++) {
            String[] parts = due[g].split(" ");
            int level = Integer.parseInt(parts[0].substring(1));
            int kind = parts[0].charAt(0) == 'A' ? 1 : 0;
            ands += kind;
            depth = Math.max(depth, level);
            same("kind of gate " + g + " of " + shown(text), house.gate(g, 0), kind);
            same("LEVEL of gate " + g + " of " + shown(text), house.gate(g, 1), level);
            same("first of gate " + g + " of " + shown(text), house.gate(g, 2), Integer.parseInt(parts[1]));
            same("second of gate " + g + " of " + shown(text), house.gate(g, 3), Integer.parseInt(parts[2]));
        }
        same("no gate more of " + shown(text), house.gate(due.length, 0), -1);
        same("ANDs of " + shown(text), house.look(2), ands);
        same("D of " + shown(text), house.look(3), depth);
        return house;
    }

    void literals(ShareHouse house, int k, int... due) {
        for (int j = 0; j < due.length; j++) {
            same("literal(" + k + ", " + j + ")", house.literal(k, j), due[j]);
        }
        same("literal(" + k + ", " + due.length + ")", house.literal(k, due.length), -3);
    }

    /** Of the same PROGRAM all that can be asked of two objects is the same, whatever came ahead of it on either one. */
    void alike(String told, ShareHouse x, ShareHouse y) {
        for (int what = 0; what <= 12; what++) {
            same("look(" + what + ") of " + told, x.look(what), y.look(what));
        }
        for (int g = 0; g < y.look(1); g++) {
            for (int what = 0; what < 4; what++) {
                same("gate(" + g + ", " + what + ") of " + told, x.gate(g, what), y.gate(g, what));
            }
        }
        for (int k = 0; k <= y.look(6); k++) {
            for (int j = 0; j <= width; j++) {
                same("literal(" + k + ", " + j + ") of " + told, x.literal(k, j), y.literal(k, j));
            }
            same("truth(" + k + ") of " + told, x.truth(k), y.truth(k));
        }
        for (int w = 0; w <= y.look(5); w++) {
            for (int what = 0; what < 3; what++) {
                same("input(" + w + ", " + what + ") of " + told, x.input(w, what), y.input(w, what));
            }
            same("give(" + w + ") of " + told, x.give(w, 77 * w + 5) ? 1 : 0, y.give(w, 77 * w + 5) ? 1 : 0);
        }
        alikeDealt(told, x, y);
    }

    /** A new deal of either one, whatever was dealt ahead of it. */
    void alikeDealt(String told, ShareHouse x, ShareHouse y) {
        x.seed(12);
        y.seed(12);
        same("deal of " + told, x.deal() ? 1 : 0, y.deal() ? 1 : 0);
        for (int n = 0; n < 3 * parties && y.look(9) > 0; n++) {
            int k = n * 7 % y.look(9);
            int to = y.message(k, 1);
            same("deliver(" + k + ") of " + told, x.deliver(k), y.deliver(k));
            same("party(" + to + ", 0) of " + told, x.party(to, 0), y.party(to, 0));
        }
        for (int n = 0; n < 3; n++) {
            for (int k = 0; k < y.look(9); k++) {
                for (int what = 0; what < 60; what++) {
                    same("message(" + k + ", " + what + ") of " + told, x.message(k, what), y.message(k, what));
                }
            }
            same("rush of " + told, x.rush(n == 0 ? 5 : 100_000, n), y.rush(n == 0 ? 5 : 100_000, n));
        }
        for (int what = 9; what <= 14; what++) {
            same("look(" + what + ") of " + told, x.look(what), y.look(what));
        }
        for (int p = 0; p <= parties; p++) {
            for (int what = 0; what < 3; what++) {
                same("party(" + p + ", " + what + ") of " + told, x.party(p, what), y.party(p, what));
            }
            int bits = y.party(p, 2);
            for (int i = 0; i <= bits; i += i < 200 || i > bits - 200 ? 1 : 50) {
                same("view(" + p + ", " + i + ") of " + told, x.view(p, i), y.view(p, i));
            }
            for (int k = 0; k <= y.look(6); k++) {
                same("told(" + p + ", " + k + ") of " + told, x.told(p, k), y.told(p, k));
                same("truth(" + k + ") of " + told, x.truth(k), y.truth(k));
            }
        }
    }

    private static String shown(String text) {
        return text.length() <= 100 ? text : text.substring(0, 50) + " .. " + text.substring(text.length() - 40);
    }
}
