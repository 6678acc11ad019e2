import java.util.ArrayList;
import java.util.HashMap;
import java.util.LinkedHashMap;
import java.util.List;
import java.util.Map;

/**
 * The document once more, in the plainest Java and made in other ways than ShareHouse: trees instead of a row of
 * instructions, numbers for the MEANING, parties that know nothing but what was dealt and sent to them.
 */
final class Oracle {
    static final class Fault extends RuntimeException {
        final int number;
        final int place;

        Fault(int number, int place) {
            super(number + " at " + place, null, false, false);
            this.number = number;
            this.place = place;
        }
    }

    enum Sort { INT, BIT }

    // ---- words of the text

    record Token(String kind, String text, int at) { }

    static List<Token> scan(String text) {
        List<Token> tokens = new ArrayList<>();
        List<String> kept = List.of("input", "of", "var", "def", "for", "to", "if", "else", "output", "int", "bit",
            "true", "false");
        List<String> pairs = List.of("||", "&&", "==", "!=", "<=", ">=", "<<", ">>");
        int i = 0;
        while (i < text.length()) {
            char c = text.charAt(i);
            int from = i;
            if (c == ' ' || c == '\t' || c == '\n') {
                i++;
            } else if (c == '#') {
                while (i < text.length() && text.charAt(i) != '\n') {
                    i++;
                }
            } else if (Character.isDigit(c)) {
                while (i < text.length() && Character.isDigit(text.charAt(i))) {
                    i++;
                }
                tokens.add(new Token("NUMBER", text.substring(from, i), from));
            } else if (Character.isLetter(c) || c == '_') {
                while (i < text.length() && (Character.isLetterOrDigit(text.charAt(i)) || text.charAt(i) == '_')) {
                    i++;
                }
                String word = text.substring(from, i);
                tokens.add(new Token(kept.contains(word) ? word : "NAME", word, from));
            } else {
                boolean two = i + 1 < text.length() && pairs.contains(text.substring(i, i + 2));
                i += two ? 2 : 1;
                String sign = text.substring(from, i);
                tokens.add(new Token(sign, sign, from));
            }
        }
        tokens.add(new Token("END", "", text.length()));
        return tokens;
    }

    // ---- trees

    static final class Expr {
        String kind;
        int first;
        int sign;
        String text;
        long number;
        List<Expr> parts = new ArrayList<>();
        Sort sort;
        boolean open;
        Symbol symbol;
    }

    static final class Statement {
        String kind;
        int at;
        String name;
        int nameAt;
        Sort sort;
        int size;
        int party;
        List<Expr> exprs = new ArrayList<>();
        List<Statement> block = new ArrayList<>();
        List<Statement> other;
        List<Symbol> params = new ArrayList<>();
        Symbol symbol;
        List<Symbol> varsAhead;
    }

    static final class Symbol {
        String name;
        int at;
        String kind;
        Sort sort;
        int size;
        Expr body;
        List<Symbol> params;
        int firstWord;

        int words() {
            return size == 0 ? 1 : size;
        }
    }

    // ---- READING

    final int parties;
    final int width;
    private List<Token> tokens;
    private int next;
    private int nested;
    private int inputWords;
    private int varWords;

    Oracle(int parties, int width) {
        this.parties = parties;
        this.width = width;
    }

    private Token token() {
        return tokens.get(next);
    }

    private boolean is(String kind) {
        return token().kind.equals(kind);
    }

    private Token take(String kind) {
        Token t = token();
        if (!t.kind.equals(kind)) {
            throw new Fault(1, t.at);
        }
        if (kind.equals("NAME") && t.text.length() > 16) {
            throw new Fault(2, t.at);
        }
        if (kind.equals("NUMBER") && (t.text.length() > 10 || Long.parseLong(t.text) > 4294967295L)) {
            throw new Fault(2, t.at);
        }
        next++;
        return t;
    }

    private Token open(String kind) {
        Token t = token();
        if (t.kind.equals(kind) && nested == 30) {
            throw new Fault(3, t.at);
        }
        take(kind);
        nested++;
        return t;
    }

    private void close(String kind) {
        take(kind);
        nested--;
    }

    List<Statement> read(String text) {
        tokens = scan(text);
        next = 0;
        nested = 0;
        inputWords = 0;
        varWords = 0;
        List<Statement> items = new ArrayList<>();
        while (!is("END")) {
            items.add(item());
        }
        return items;
    }

    private Statement item() {
        Statement s = new Statement();
        s.at = token().at;
        s.kind = token().kind;
        if (is("input")) {
            take("input");
            name(s);
            take("of");
            Token p = take("NUMBER");
            if (Long.parseLong(p.text) >= parties) {
                throw new Fault(2, p.at);
            }
            s.party = Integer.parseInt(p.text);
            take(":");
            type(s);
            inputWords += Math.max(1, s.size);
            if (inputWords > 256) {
                throw new Fault(2, s.nameAt);
            }
            take(";");
        } else if (is("def")) {
            take("def");
            name(s);
            take("(");
            while (!is(")")) {
                if (!s.params.isEmpty()) {
                    take(",");
                }
                Symbol p = new Symbol();
                Token n = take("NAME");
                p.name = n.text;
                p.at = n.at;
                p.kind = "param";
                take(":");
                p.sort = sort();
                s.params.add(p);
            }
            take(")");
            take(":");
            s.sort = sort();
            take("=");
            s.exprs.add(expr());
            take(";");
        } else if (is("output")) {
            take("output");
            s.exprs.add(expr());
            take(";");
        } else {
            return statement();
        }
        return s;
    }

    private void name(Statement s) {
        Token t = take("NAME");
        s.name = t.text;
        s.nameAt = t.at;
    }

    private Sort sort() {
        if (is("int")) {
            take("int");
            return Sort.INT;
        }
        take("bit");
        return Sort.BIT;
    }

    private void type(Statement s) {
        s.sort = sort();
        if (is("[")) {
            take("[");
            Token n = take("NUMBER");
            long size = Long.parseLong(n.text);
            if (size < 1 || size > 64) {
                throw new Fault(2, n.at);
            }
            s.size = (int) size;
            take("]");
        }
    }

    private Statement statement() {
        Statement s = new Statement();
        s.at = token().at;
        s.kind = token().kind;
        switch (s.kind) {
            case "var":
                take("var");
                name(s);
                take(":");
                type(s);
                varWords += Math.max(1, s.size);
                if (varWords > 256) {
                    throw new Fault(2, s.nameAt);
                }
                if (is("=")) {
                    take("=");
                    s.exprs.add(expr());
                }
                take(";");
                break;
            case "NAME":
                name(s);
                if (is("[")) {
                    s.kind = "element";
                    open("[");
                    s.exprs.add(expr());
                    close("]");
                } else {
                    s.kind = "assign";
                }
                take("=");
                s.exprs.add(expr());
                take(";");
                break;
            case "if":
                take("if");
                open("(");
                s.exprs.add(expr());
                close(")");
                s.block = block();
                if (is("else")) {
                    take("else");
                    s.other = new ArrayList<>();
                    if (is("if")) {
                        if (nested == 30) {
                            throw new Fault(3, token().at);
                        }
                        nested++;
                        s.other.add(statement());
                        nested--;
                    } else {
                        s.other = block();
                    }
                }
                break;
            case "for":
                take("for");
                name(s);
                take("=");
                s.exprs.add(expr());
                take("to");
                s.exprs.add(expr());
                s.block = block();
                break;
            default:
                throw new Fault(1, s.at);
        }
        return s;
    }

    private List<Statement> block() {
        List<Statement> all = new ArrayList<>();
        open("{");
        while (!is("}")) {
            all.add(statement());
        }
        close("}");
        return all;
    }

    private static final String[][] ROWS = {{"||"}, {"&&"}, {"|"}, {"^"}, {"&"}, {"==", "!="}, {"<", "<=", ">", ">="},
        {"<<", ">>"}, {"+", "-"}, {"*", "/", "%"}};

    private Expr expr() {
        int first = token().at;
        Expr c = row(0);
        if (!is("?")) {
            return c;
        }
        Expr e = new Expr();
        e.kind = "?";
        e.first = first;
        e.sign = open("?").at;
        e.parts.add(c);
        e.parts.add(expr());
        take(":");
        e.parts.add(expr());
        nested--;
        return e;
    }

    private Expr row(int r) {
        if (r == ROWS.length) {
            return factor();
        }
        Expr left = row(r + 1);
        while (List.of(ROWS[r]).contains(token().kind)) {
            Expr e = new Expr();
            e.kind = token().kind;
            e.first = left.first;
            e.sign = token().at;
            next++;
            e.parts.add(left);
            e.parts.add(row(r + 1));
            left = e;
        }
        return left;
    }

    private Expr factor() {
        Expr e = new Expr();
        e.first = token().at;
        e.sign = e.first;
        switch (token().kind) {
            case "-":
            case "~":
            case "!":
                e.kind = "unary" + token().kind;
                open(token().kind);
                e.parts.add(factor());
                nested--;
                break;
            case "NUMBER":
                e.kind = "number";
                e.number = Long.parseLong(take("NUMBER").text);
                break;
            case "true":
            case "false":
                e.kind = "truth";
                e.number = is("true") ? 1 : 0;
                next++;
                break;
            case "int":
                next++;
                e.kind = "int";
                open("(");
                e.parts.add(expr());
                close(")");
                break;
            case "bit":
                next++;
                e.kind = "bit";
                open("(");
                e.parts.add(expr());
                take(",");
                e.parts.add(expr());
                close(")");
                break;
            case "(":
                e.kind = "(";
                open("(");
                e.parts.add(expr());
                close(")");
                break;
            default:
                e.text = take("NAME").text;
                e.kind = "name";
                if (is("[")) {
                    e.kind = "element";
                    open("[");
                    e.parts.add(expr());
                    close("]");
                } else if (is("(")) {
                    e.kind = "call";
                    open("(");
                    while (!is(")")) {
                        if (!e.parts.isEmpty()) {
                            take(",");
                        }
                        e.parts.add(expr());
                    }
                    close(")");
                }
                break;
        }
        return e;
    }

    // ---- SORTS

    private void need(Expr e, Sort sort) {
        if (e.sort != sort) {
            throw new Fault(5, e.first);
        }
    }

    private void needOpen(Expr e) {
        if (!e.open) {
            throw new Fault(6, e.first);
        }
    }

    private void bring(Map<String, Symbol> scope, String name, int at) {
        if (scope.containsKey(name)) {
            throw new Fault(4, at);
        }
    }

    private Symbol symbol(Statement s, String kind, int firstWord) {
        Symbol y = new Symbol();
        y.name = s.name;
        y.at = s.nameAt;
        y.kind = kind;
        y.sort = s.sort;
        y.size = s.size;
        y.firstWord = firstWord;
        s.symbol = y;
        return y;
    }

    private int wordsSoFar;

    void check(List<Statement> items) {
        Map<String, Symbol> scope = new LinkedHashMap<>();
        wordsSoFar = 0;
        int inputsSoFar = 0;
        for (Statement s : items) {
            switch (s.kind) {
                case "input":
                    bring(scope, s.name, s.nameAt);
                    scope.put(s.name, symbol(s, "input", inputsSoFar));
                    inputsSoFar += s.symbol.words();
                    break;
                case "def":
                    bring(scope, s.name, s.nameAt);
                    Map<String, Symbol> inside = new LinkedHashMap<>();
                    for (Symbol y : scope.values()) {
                        if (y.kind.equals("def")) {
                            inside.put(y.name, y);
                        }
                    }
                    for (Symbol p : s.params) {
                        bring(inside, p.name, p.at);
                        inside.put(p.name, p);
                    }
                    sorts(s.exprs.get(0), inside);
                    need(s.exprs.get(0), s.sort);
                    Symbol d = symbol(s, "def", 0);
                    d.params = s.params;
                    d.body = s.exprs.get(0);
                    scope.put(s.name, d);
                    break;
                case "output":
                    sorts(s.exprs.get(0), scope);
                    break;
                default:
                    checkStatement(s, scope);
                    break;
            }
        }
    }

    private void checkStatement(Statement s, Map<String, Symbol> scope) {
        switch (s.kind) {
            case "var":
                bring(scope, s.name, s.nameAt);
                symbol(s, "var", wordsSoFar);
                wordsSoFar += s.symbol.words();
                if (!s.exprs.isEmpty()) {
                    sorts(s.exprs.get(0), scope);
                    need(s.exprs.get(0), s.sort);
                }
                scope.put(s.name, s.symbol);
                break;
            case "assign":
            case "element":
                s.symbol = scope.get(s.name);
                if (s.symbol == null) {
                    throw new Fault(4, s.nameAt);
                }
                if (!s.symbol.kind.equals("var") || s.symbol.size == 0 == s.kind.equals("element")) {
                    throw new Fault(5, s.nameAt);
                }
                if (s.kind.equals("element")) {
                    sorts(s.exprs.get(0), scope);
                    need(s.exprs.get(0), Sort.INT);
                }
                Expr v = s.exprs.get(s.exprs.size() - 1);
                sorts(v, scope);
                need(v, s.symbol.sort);
                break;
            case "if":
                sorts(s.exprs.get(0), scope);
                need(s.exprs.get(0), Sort.BIT);
                s.varsAhead = new ArrayList<>();
                for (Symbol y : scope.values()) {
                    if (y.kind.equals("var")) {
                        s.varsAhead.add(y);
                    }
                }
                checkBlock(s.block, scope);
                if (s.other != null) {
                    checkBlock(s.other, scope);
                }
                break;
            default:
                bring(scope, s.name, s.nameAt);
                for (Expr e : s.exprs) {
                    sorts(e, scope);
                    need(e, Sort.INT);
                    needOpen(e);
                }
                s.sort = Sort.INT;
                Map<String, Symbol> inside = new LinkedHashMap<>(scope);
                inside.put(s.name, symbol(s, "loop", 0));
                checkBlock(s.block, inside);
                break;
        }
    }

    private void checkBlock(List<Statement> block, Map<String, Symbol> scope) {
        Map<String, Symbol> inside = new LinkedHashMap<>(scope);
        for (Statement s : block) {
            checkStatement(s, inside);
        }
    }

    private void sorts(Expr e, Map<String, Symbol> scope) {
        if (e.text != null) {
            e.symbol = scope.get(e.text);
            if (e.symbol == null) {
                throw new Fault(4, e.first);
            }
            boolean array = e.symbol.size > 0;
            boolean def = e.symbol.kind.equals("def");
            if (array != e.kind.equals("element") || def != e.kind.equals("call")
                    || def && e.symbol.params.size() != e.parts.size()) {
                throw new Fault(5, e.first);
            }
        }
        switch (e.kind) {
            case "number":
                e.sort = Sort.INT;
                e.open = true;
                return;
            case "truth":
                e.sort = Sort.BIT;
                e.open = true;
                return;
            case "name":
                e.sort = e.symbol.sort;
                e.open = e.symbol.kind.equals("loop");
                return;
            case "element":
                sorts(e.parts.get(0), scope);
                need(e.parts.get(0), Sort.INT);
                e.sort = e.symbol.sort;
                return;
            case "call":
                for (int i = 0; i < e.parts.size(); i++) {
                    sorts(e.parts.get(i), scope);
                    need(e.parts.get(i), e.symbol.params.get(i).sort);
                }
                e.sort = e.symbol.sort;
                return;
            case "int":
                sorts(e.parts.get(0), scope);
                need(e.parts.get(0), Sort.BIT);
                e.sort = Sort.INT;
                e.open = e.parts.get(0).open;
                return;
            case "bit":
                sorts(e.parts.get(0), scope);
                need(e.parts.get(0), Sort.INT);
                sorts(e.parts.get(1), scope);
                need(e.parts.get(1), Sort.INT);
                needOpen(e.parts.get(1));
                e.sort = Sort.BIT;
                e.open = e.parts.get(0).open;
                return;
            default:
                break;
        }
        e.open = true;
        for (Expr p : e.parts) {
            sorts(p, scope);
            e.open &= p.open;
        }
        operator(e);
    }

    private void operator(Expr e) {
        Sort x = e.parts.get(0).sort;
        Sort y = e.parts.size() > 1 ? e.parts.get(1).sort : x;
        boolean fits;
        switch (e.kind) {
            case "(":
                fits = true;
                e.sort = x;
                break;
            case "?":
                fits = x == Sort.BIT && y == e.parts.get(2).sort;
                e.sort = y;
                break;
            case "unary!":
            case "&&":
            case "||":
                fits = x == Sort.BIT && y == Sort.BIT;
                e.sort = Sort.BIT;
                break;
            case "&":
            case "|":
            case "^":
                fits = x == y;
                e.sort = x;
                break;
            case "==":
            case "!=":
                fits = x == y;
                e.sort = Sort.BIT;
                break;
            case "<":
            case "<=":
            case ">":
            case ">=":
                fits = x == Sort.INT && y == Sort.INT;
                e.sort = Sort.BIT;
                break;
            default:
                fits = x == Sort.INT && y == Sort.INT;
                e.sort = Sort.INT;
                break;
        }
        if (!fits) {
            throw new Fault(5, e.sign);
        }
        if (e.kind.equals("<<") || e.kind.equals(">>")) {
            needOpen(e.parts.get(1));
        }
    }

    // ---- MEANING, in numbers

    long mask() {
        return (1L << width) - 1;
    }

    private long signed(long x) {
        return x << (64 - width) >> (64 - width);
    }

    private static final class Meaning {
        Map<Symbol, long[]> vars = new HashMap<>();
        List<Long> outputs = new ArrayList<>();
        long[] inputs;
    }

    List<Long> mean(List<Statement> items, long[] inputs) {
        Meaning m = new Meaning();
        m.inputs = inputs;
        for (Statement s : items) {
            if (s.kind.equals("input")) {
                long[] words = new long[s.symbol.words()];
                System.arraycopy(inputs, s.symbol.firstWord, words, 0, words.length);
                m.vars.put(s.symbol, words);
            } else if (s.kind.equals("output")) {
                m.outputs.add(value(s.exprs.get(0), m, Map.of()));
            } else if (!s.kind.equals("def")) {
                act(s, m);
            }
        }
        return m.outputs;
    }

    private void act(Statement s, Meaning m) {
        switch (s.kind) {
            case "var": {
                long v = s.exprs.isEmpty() ? 0 : value(s.exprs.get(0), m, Map.of());
                long[] words = new long[s.symbol.words()];
                java.util.Arrays.fill(words, v);
                m.vars.put(s.symbol, words);
                break;
            }
            case "assign":
                m.vars.get(s.symbol)[0] = value(s.exprs.get(0), m, Map.of());
                break;
            case "element": {
                long i = value(s.exprs.get(0), m, Map.of());
                long v = value(s.exprs.get(1), m, Map.of());
                if (i < s.symbol.size) {
                    m.vars.get(s.symbol)[(int) i] = v;
                }
                break;
            }
            case "if": {
                List<Statement> block = value(s.exprs.get(0), m, Map.of()) == 1 ? s.block : s.other;
                if (block != null) {
                    for (Statement t : block) {
                        act(t, m);
                    }
                }
                break;
            }
            default: {
                long from = value(s.exprs.get(0), m, Map.of());
                long to = value(s.exprs.get(1), m, Map.of());
                for (long i = from; i <= to; i++) {
                    m.vars.put(s.symbol, new long[] {i});
                    for (Statement t : s.block) {
                        act(t, m);
                    }
                }
                break;
            }
        }
    }

    private long value(Expr e, Meaning m, Map<Symbol, Long> params) {
        switch (e.kind) {
            case "number":
                return e.number & mask();
            case "truth":
                return e.number;
            case "name":
                return e.symbol.kind.equals("param") ? params.get(e.symbol) : m.vars.get(e.symbol)[0];
            case "element": {
                long i = value(e.parts.get(0), m, params);
                return i < e.symbol.size ? m.vars.get(e.symbol)[(int) i] : 0;
            }
            case "call": {
                Map<Symbol, Long> inside = new HashMap<>();
                for (int i = 0; i < e.parts.size(); i++) {
                    inside.put(e.symbol.params.get(i), value(e.parts.get(i), m, params));
                }
                return value(e.symbol.body, m, inside);
            }
            default:
                break;
        }
        long x = value(e.parts.get(0), m, params);
        long y = e.parts.size() > 1 ? value(e.parts.get(1), m, params) : 0;
        switch (e.kind) {
            case "(":
            case "int":
                return x;
            case "bit":
                return x >> y & 1;
            case "?":
                return x == 1 ? y : value(e.parts.get(2), m, params);
            case "unary-":
                return -x & mask();
            case "unary~":
                return ~x & mask();
            case "unary!":
                return 1 - x;
            case "||":
            case "|":
                return x | y;
            case "&&":
            case "&":
                return x & y;
            case "^":
                return x ^ y;
            case "==":
                return x == y ? 1 : 0;
            case "!=":
                return x != y ? 1 : 0;
            case "<":
                return signed(x) < signed(y) ? 1 : 0;
            case "<=":
                return signed(x) <= signed(y) ? 1 : 0;
            case ">":
                return signed(x) > signed(y) ? 1 : 0;
            case ">=":
                return signed(x) >= signed(y) ? 1 : 0;
            case "<<":
                return x << y & mask();
            case ">>":
                return x >> y;
            case "+":
                return x + y & mask();
            case "-":
                return x - y & mask();
            case "*":
                return x * y & mask();
            case "/":
                return y == 0 ? mask() : x / y;
            default:
                return y == 0 ? x : x % y;
        }
    }

    // ---- THE CIRCUIT

    record Gate(boolean and, int x, int y, int level) { }

    static final int ZERO = -2;
    static final int ONE = -1;

    static final class Built {
        List<Statement> items;
        int inputBits;
        int steps;
        List<Gate> gates = new ArrayList<>();
        List<int[]> outputs = new ArrayList<>();
        List<Integer> wordParty = new ArrayList<>();
        List<Integer> wordBits = new ArrayList<>();
        List<Integer> wireParty = new ArrayList<>();

        int level(int x) {
            int wire = x >> 1;
            return x < 0 || wire < inputBits ? 0 : gates.get(wire - inputBits).level;
        }

        int depth() {
            int d = 0;
            for (Gate g : gates) {
                d = Math.max(d, g.level);
            }
            return d;
        }

        int ands() {
            int n = 0;
            for (Gate g : gates) {
                n += g.and ? 1 : 0;
            }
            return n;
        }
    }

    private Built b;
    private int here;
    private Map<Symbol, int[][]> cells;
    private Map<Symbol, Long> loops;

    Built compile(String text) {
        List<Statement> items = read(text);
        check(items);
        b = new Built();
        b.items = items;
        cells = new HashMap<>();
        loops = new HashMap<>();
        for (Statement s : items) {
            if (s.kind.equals("input")) {
                int[][] words = new int[s.symbol.words()][s.sort == Sort.BIT ? 1 : width];
                for (int[] word : words) {
                    b.wordParty.add(s.party);
                    b.wordBits.add(word.length);
                    for (int j = 0; j < word.length; j++) {
                        word[j] = 2 * b.inputBits++;
                        b.wireParty.add(s.party);
                    }
                }
                cells.put(s.symbol, words);
            }
        }
        for (Statement s : items) {
            if (s.kind.equals("output")) {
                here = s.at;
                step();
                b.outputs.add(bits(s.exprs.get(0), Map.of()));
            } else if (!s.kind.equals("input") && !s.kind.equals("def")) {
                build(s);
            }
        }
        return b;
    }

    private void step() {
        if (b.steps == 100000) {
            throw new Fault(8, here);
        }
        b.steps++;
    }

    private int gate(boolean and, int x, int y) {
        int level = Math.max(b.level(x), b.level(y)) + (and ? 1 : 0);
        if (b.gates.size() == 40000 || level > 2000) {
            throw new Fault(8, here);
        }
        b.gates.add(new Gate(and, x, y, level));
        return 2 * (b.inputBits + b.gates.size() - 1);
    }

    static int not(int x) {
        return x == ZERO ? ONE : x == ONE ? ZERO : x % 2 == 0 ? x + 1 : x - 1;
    }

    private int xor(int x, int y) {
        if (x == ZERO) {
            return y;
        }
        if (x == ONE) {
            return not(y);
        }
        if (y == ZERO) {
            return x;
        }
        if (y == ONE) {
            return not(x);
        }
        if (x == y) {
            return ZERO;
        }
        if (x == not(y)) {
            return ONE;
        }
        int g = gate(false, x / 2 * 2, y / 2 * 2);
        return x % 2 != y % 2 ? not(g) : g;
    }

    private int and(int x, int y) {
        if (x == ZERO || y == ZERO || x == not(y)) {
            return ZERO;
        }
        if (x == ONE || x == y) {
            return y;
        }
        return y == ONE ? x : gate(true, x, y);
    }

    private int mux(int c, int x, int y) {
        int t = xor(x, y);
        t = and(c, t);
        return xor(y, t);
    }

    private int[] word(long value) {
        int[] w = new int[width];
        for (int j = 0; j < width; j++) {
            w[j] = (value >> j & 1) == 1 ? ONE : ZERO;
        }
        return w;
    }

    private long known(int[] w) {
        long v = 0;
        for (int j = 0; j < w.length; j++) {
            if (w[j] != ONE && w[j] != ZERO) {
                throw new IllegalStateException("a PUBLIC one is no CONSTANT");
            }
            v += w[j] == ONE ? 1L << j : 0;
        }
        return v;
    }

    private int[] nots(int[] x) {
        int[] r = new int[x.length];
        for (int j = 0; j < x.length; j++) {
            r[j] = not(x[j]);
        }
        return r;
    }

    private int[] sum(int[] x, int[] y, int c) {
        int[] s = new int[x.length];
        for (int j = 0; j < x.length; j++) {
            int u = xor(y[j], c);
            s[j] = xor(x[j], u);
            if (j + 1 < x.length) {
                int t = xor(x[j], c);
                c = xor(c, and(t, u));
            }
        }
        return s;
    }

    private int less(int[] p, int[] q) {
        int[] x = p.clone();
        int[] y = q.clone();
        x[width - 1] = not(x[width - 1]);
        y[width - 1] = not(y[width - 1]);
        int c = ONE;
        for (int j = 0; j < width; j++) {
            int u = xor(not(y[j]), c);
            int t = xor(x[j], c);
            c = xor(c, and(t, u));
        }
        return not(c);
    }

    private int equal(int[] x, int[] y) {
        List<Integer> all = new ArrayList<>();
        for (int j = 0; j < x.length; j++) {
            all.add(not(xor(x[j], y[j])));
        }
        while (all.size() > 1) {
            List<Integer> fewer = new ArrayList<>();
            for (int i = 0; i < all.size(); i += 2) {
                fewer.add(i + 1 < all.size() ? (Integer) and(all.get(i), all.get(i + 1)) : all.get(i));
            }
            all = fewer;
        }
        return all.get(0);
    }

    private int[] times(int[] x, int[] y) {
        int[] r = new int[width];
        for (int j = 0; j < width; j++) {
            r[j] = and(x[j], y[0]);
        }
        for (int k = 1; k < width; k++) {
            int[] q = new int[width - k];
            int[] high = new int[width - k];
            for (int j = 0; j < width - k; j++) {
                q[j] = and(x[j], y[k]);
                high[j] = r[k + j];
            }
            System.arraycopy(sum(high, q, ZERO), 0, r, k, width - k);
        }
        return r;
    }

    private int[] divide(int[] x, int[] y, boolean rest) {
        int[] r = word(0);
        int[] q = new int[width];
        for (int k = width - 1; k >= 0; k--) {
            int[] s = new int[width + 1];
            s[0] = x[k];
            for (int j = 0; j < width; j++) {
                s[j + 1] = r[j];
            }
            int[] d = new int[width];
            int c = ONE;
            for (int j = 0; j <= width; j++) {
                int u = xor(not(j == width ? ZERO : y[j]), c);
                if (j != width) {
                    d[j] = xor(s[j], u);
                }
                int t = xor(s[j], c);
                c = xor(c, and(t, u));
            }
            q[k] = c;
            for (int j = 0; j < width; j++) {
                r[j] = mux(c, d[j], s[j]);
            }
        }
        return rest ? r : q;
    }

    private int chosen(int[] index, int k) {
        return k < 1L << width ? equal(index, word(k)) : ZERO;
    }

    private static final List<String> STEPPING = List.of("number", "truth", "name", "element", "call", "int", "bit",
        "(");

    private int[] bits(Expr e, Map<Symbol, int[]> params) {
        if (STEPPING.contains(e.kind)) {
            step();
        }
        switch (e.kind) {
            case "number":
                return word(e.number);
            case "truth":
                return new int[] {e.number == 1 ? ONE : ZERO};
            case "name":
                return e.symbol.kind.equals("param") ? params.get(e.symbol)
                    : e.symbol.kind.equals("loop") ? word(loops.get(e.symbol)) : cells.get(e.symbol)[0];
            case "element":
                return element(e, params);
            case "call": {
                Map<Symbol, int[]> inside = new HashMap<>();
                for (int i = 0; i < e.parts.size(); i++) {
                    inside.put(e.symbol.params.get(i), bits(e.parts.get(i), params));
                }
                return bits(e.symbol.body, inside);
            }
            default:
                break;
        }
        int[] x = bits(e.parts.get(0), params);
        int[] y = e.parts.size() > 1 ? bits(e.parts.get(1), params) : null;
        switch (e.kind) {
            case "(":
                return x;
            case "int": {
                int[] r = word(0);
                r[0] = x[0];
                return r;
            }
            case "bit":
                if (known(y) >= width) {
                    throw new Fault(7, e.parts.get(1).first);
                }
                return new int[] {x[(int) known(y)]};
            case "?": {
                int[] z = bits(e.parts.get(2), params);
                int[] r = new int[y.length];
                for (int j = 0; j < y.length; j++) {
                    r[j] = mux(x[0], y[j], z[j]);
                }
                return r;
            }
            case "unary-":
                return sum(word(0), nots(x), ONE);
            case "unary~":
            case "unary!":
                return nots(x);
            case "<<":
            case ">>": {
                long by = known(y);
                if (by >= width) {
                    throw new Fault(7, e.parts.get(1).first);
                }
                int[] r = word(0);
                for (int j = 0; j < width; j++) {
                    long to = e.kind.equals("<<") ? j + by : j - by;
                    if (to >= 0 && to < width) {
                        r[(int) to] = x[j];
                    }
                }
                return r;
            }
            case "+":
                return sum(x, y, ZERO);
            case "-":
                return sum(x, nots(y), ONE);
            case "*":
                return times(x, y);
            case "/":
                return divide(x, y, false);
            case "%":
                return divide(x, y, true);
            case "==":
                return new int[] {equal(x, y)};
            case "!=":
                return new int[] {not(equal(x, y))};
            case "<":
                return new int[] {less(x, y)};
            case "<=":
                return new int[] {not(less(y, x))};
            case ">":
                return new int[] {less(y, x)};
            case ">=":
                return new int[] {not(less(x, y))};
            default:
                return bitwise(e.kind, x, y);
        }
    }

    private int[] bitwise(String kind, int[] x, int[] y) {
        int[] r = new int[x.length];
        for (int j = 0; j < x.length; j++) {
            if (kind.startsWith("&")) {
                r[j] = and(x[j], y[j]);
            } else if (kind.startsWith("|")) {
                r[j] = not(and(not(x[j]), not(y[j])));
            } else {
                r[j] = xor(x[j], y[j]);
            }
        }
        return r;
    }

    private int[] element(Expr e, Map<Symbol, int[]> params) {
        int[] index = bits(e.parts.get(0), params);
        int[][] words = cells.get(e.symbol);
        if (e.parts.get(0).open) {
            if (known(index) >= e.symbol.size) {
                throw new Fault(7, e.parts.get(0).first);
            }
            return words[(int) known(index)];
        }
        int[] r = new int[words[0].length];
        java.util.Arrays.fill(r, ZERO);
        for (int k = 0; k < words.length; k++) {
            int c = chosen(index, k);
            for (int j = 0; j < r.length; j++) {
                r[j] = xor(r[j], and(c, words[k][j]));
            }
        }
        return r;
    }

    private void build(Statement s) {
        here = s.at;
        step();
        switch (s.kind) {
            case "var": {
                int[] v = s.exprs.isEmpty() ? s.sort == Sort.BIT ? new int[] {ZERO} : word(0)
                    : bits(s.exprs.get(0), Map.of());
                int[][] words = new int[s.symbol.words()][];
                for (int k = 0; k < words.length; k++) {
                    words[k] = v.clone();
                }
                cells.put(s.symbol, words);
                break;
            }
            case "assign":
                cells.get(s.symbol)[0] = bits(s.exprs.get(0), Map.of()).clone();
                break;
            case "element":
                storeElement(s);
                break;
            case "if":
                buildIf(s);
                break;
            default: {
                long from = known(bits(s.exprs.get(0), Map.of()));
                long to = known(bits(s.exprs.get(1), Map.of()));
                if (to - from + 1 > 256) {
                    throw new Fault(7, s.at);
                }
                for (long i = from; i <= to; i++) {
                    loops.put(s.symbol, i);
                    for (Statement t : s.block) {
                        build(t);
                    }
                }
                break;
            }
        }
    }

    private void storeElement(Statement s) {
        int[] index = bits(s.exprs.get(0), Map.of());
        boolean open = s.exprs.get(0).open;
        if (open && known(index) >= s.symbol.size) {
            throw new Fault(7, s.exprs.get(0).first);
        }
        int[] v = bits(s.exprs.get(1), Map.of());
        int[][] words = cells.get(s.symbol);
        if (open) {
            words[(int) known(index)] = v.clone();
            return;
        }
        for (int k = 0; k < words.length; k++) {
            int c = chosen(index, k);
            int[] made = new int[v.length];
            for (int j = 0; j < v.length; j++) {
                made[j] = mux(c, v[j], words[k][j]);
            }
            words[k] = made;
        }
    }

    private Map<Symbol, int[][]> copyOf(List<Symbol> vars) {
        Map<Symbol, int[][]> copy = new LinkedHashMap<>();
        for (Symbol y : vars) {
            int[][] words = new int[y.words()][];
            for (int k = 0; k < words.length; k++) {
                words[k] = cells.get(y)[k].clone();
            }
            copy.put(y, words);
        }
        return copy;
    }

    private void buildIf(Statement s) {
        int c = bits(s.exprs.get(0), Map.of())[0];
        Map<Symbol, int[][]> before = copyOf(s.varsAhead);
        for (Statement t : s.block) {
            build(t);
        }
        Map<Symbol, int[][]> first = copyOf(s.varsAhead);
        cells.putAll(before);
        if (s.other != null) {
            for (Statement t : s.other) {
                build(t);
            }
        }
        here = s.at;
        for (Symbol y : s.varsAhead) {
            for (int k = 0; k < y.words(); k++) {
                int[] second = cells.get(y)[k];
                int[] made = new int[second.length];
                for (int j = 0; j < second.length; j++) {
                    made[j] = mux(c, first.get(y)[k][j], second[j]);
                }
                cells.get(y)[k] = made;
            }
        }
    }
}
