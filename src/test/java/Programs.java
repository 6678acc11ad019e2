import java.util.ArrayList;
import java.util.List;
import java.util.Random;

/** Makes PROGRAMs at random: most are sound, some have a fault somewhere. */
final class Programs {
    private record Named(String name, String kind, boolean bit, int size, List<Boolean> params) { }

    private final Random random;
    private final int parties;
    private final int width;
    private List<Named> scope;
    private StringBuilder text;
    private int slips;

    Programs(Random random, int parties, int width) {
        this.random = random;
        this.parties = parties;
        this.width = width;
    }

    String program() {
        text = new StringBuilder();
        scope = new ArrayList<>();
        slips = random.nextInt(3) == 0 ? 40 : 0;
        int items = 1 + random.nextInt(9);
        for (int i = 0; i < items && text.length() < 1200; i++) {
            switch (random.nextInt(9)) {
                case 0:
                case 1:
                    input();
                    break;
                case 2:
                    def();
                    break;
                case 3:
                case 4:
                    text.append("output ");
                    expr(random.nextBoolean(), 3);
                    text.append(";");
                    break;
                default:
                    statement(0);
                    break;
            }
            blank();
        }
        for (Named n : new ArrayList<>(scope)) {
            if (!n.kind.equals("def") && random.nextInt(2) == 0) {
                text.append("output ").append(n.name);
                if (n.size > 0) {
                    text.append("[").append(random.nextInt(n.size)).append("]");
                }
                text.append(";");
            }
        }
        return text.toString();
    }

    /** A few bytes or words of a text changed. */
    String spoiled(String sound) {
        StringBuilder s = new StringBuilder(sound);
        String[] parts = {";", "(", ")", "[", "]", "{", "}", "?", ":", "-", "!", "~", "a", "f0", "1", "99999999999",
            "if", "else", "for", "to", "int", "bit", "true", "#", "\n", "=", "==", "<<", "&&", "&", "|", ",", "$",
            "output", "input", "var", "def", "of", "averyveryverylongname", "0", "64", "65", "4294967295", "4294967296"};
        int changes = 1 + random.nextInt(2);
        for (int i = 0; i < changes && s.length() > 0; i++) {
            int at = random.nextInt(s.length());
            switch (random.nextInt(4)) {
                case 0:
                    s.deleteCharAt(at);
                    break;
                case 1:
                    s.insert(at, parts[random.nextInt(parts.length)]);
                    break;
                case 2:
                    s.setLength(at);
                    break;
                default:
                    s.setCharAt(at, (char) (32 + random.nextInt(95)));
                    break;
            }
        }
        return s.toString();
    }

    private boolean slip() {
        return slips > 0 && random.nextInt(slips) == 0;
    }

    private void blank() {
        switch (random.nextInt(8)) {
            case 0:
                text.append("\n");
                break;
            case 1:
                text.append("\t");
                break;
            case 2:
                text.append(" # a = b; }\n");
                break;
            default:
                text.append(" ");
                break;
        }
    }

    private String fresh(String letter) {
        if (slip() && !scope.isEmpty()) {
            return scope.get(random.nextInt(scope.size())).name;
        }
        for (int i = 0;; i++) {
            String name = letter + i;
            if (scope.stream().noneMatch(n -> n.name.equals(name))) {
                return name;
            }
        }
    }

    private int size() {
        int size = random.nextInt(3) > 0 ? 0 : 1 + random.nextInt(5);
        return slip() ? 60 + random.nextInt(6) : size;
    }

    private void type(boolean bit, int size) {
        text.append(bit ? "bit" : "int");
        if (size > 0) {
            text.append("[").append(size).append("]");
        }
    }

    private void input() {
        String name = fresh("i");
        boolean bit = random.nextInt(3) == 0;
        int size = size();
        text.append("input ").append(name).append(" of ").append(random.nextInt(slip() ? parties + 2 : parties))
            .append(":");
        type(bit, size);
        text.append(";");
        scope.add(new Named(name, "input", bit, size, null));
    }

    private void def() {
        String name = fresh("f");
        boolean bit = random.nextBoolean();
        List<Named> outside = scope;
        scope = new ArrayList<>();
        for (Named n : outside) {
            if (n.kind.equals("def")) {
                scope.add(n);
            }
        }
        text.append("def ").append(name).append("(");
        List<Boolean> params = new ArrayList<>();
        int count = random.nextInt(4);
        for (int i = 0; i < count; i++) {
            text.append(i > 0 ? "," : "");
            String param = random.nextInt(3) == 0 ? fresh("i") : fresh("p");
            boolean paramBit = random.nextInt(3) == 0;
            text.append(param).append(":").append(paramBit ? "bit" : "int");
            scope.add(new Named(param, "param", paramBit, 0, null));
            params.add(paramBit);
        }
        if (slip()) {
            scope = new ArrayList<>(outside);
        }
        text.append("):").append(bit ? "bit" : "int").append("=");
        expr(bit, 3);
        text.append(";");
        scope = outside;
        scope.add(new Named(name, "def", bit, 0, params));
    }

    private void block(int depth) {
        int before = scope.size();
        text.append("{");
        int count = random.nextInt(3);
        for (int i = 0; i < count; i++) {
            statement(depth + 1);
        }
        text.append("}");
        if (!slip()) {
            while (scope.size() > before) {
                scope.remove(scope.size() - 1);
            }
        }
    }

    private void statement(int depth) {
        int which = random.nextInt(depth < 4 ? 10 : 6);
        if (which < 2) {
            String name = fresh("v");
            boolean bit = random.nextInt(3) == 0;
            int size = size();
            text.append("var ").append(name).append(":");
            type(bit, size);
            if (random.nextBoolean()) {
                text.append("=");
                expr(bit, 2);
            }
            text.append(";");
            scope.add(new Named(name, "var", bit, size, null));
        } else if (which < 6) {
            assignment();
        } else if (which < 8) {
            text.append("if(");
            expr(true, 2);
            text.append(")");
            block(depth);
            if (random.nextBoolean()) {
                text.append("else ");
                if (random.nextBoolean()) {
                    text.append("if(");
                    expr(true, 2);
                    text.append(")");
                }
                block(depth);
            }
        } else {
            loop(depth);
        }
    }

    private void loop(int depth) {
        String name = fresh("k");
        text.append("for ").append(name).append("=");
        if (slip()) {
            expr(false, 2);
        } else {
            text.append(random.nextInt(3));
        }
        text.append(random.nextBoolean() ? " to " : "to ");
        text.append(random.nextInt(slip() ? 400 : 4));
        int before = scope.size();
        scope.add(new Named(name, "loop", false, 0, null));
        block(depth);
        while (scope.size() > before) {
            scope.remove(scope.size() - 1);
        }
    }

    private void assignment() {
        List<Named> vars = new ArrayList<>();
        for (Named n : scope) {
            if (n.kind.equals("var") || slip()) {
                vars.add(n);
            }
        }
        if (vars.isEmpty()) {
            text.append("for q=0to 0{}");
            return;
        }
        Named v = vars.get(random.nextInt(vars.size()));
        text.append(v.name);
        if (v.size > 0 != slip()) {
            text.append("[");
            index(v.size, 1);
            text.append("]");
        }
        text.append("=");
        expr(v.bit, 3);
        text.append(";");
    }

    private void index(int size, int depth) {
        if (random.nextBoolean()) {
            text.append(random.nextInt(Math.max(1, slip() ? size + 2 : Math.min(size, 1 << Math.min(width, 6)))));
        } else {
            expr(false, depth);
        }
    }

    private void expr(boolean bit, int depth) {
        boolean wanted = slip() ? !bit : bit;
        if (depth <= 0 || random.nextInt(5) == 0) {
            leaf(wanted, depth);
            return;
        }
        switch (random.nextInt(10)) {
            case 0:
                text.append("(");
                expr(wanted, depth - 1);
                text.append(")");
                break;
            case 1:
                choice(wanted, depth);
                break;
            case 2:
                text.append(wanted ? "!" : random.nextBoolean() ? "-" : "~");
                expr(wanted, 0);
                break;
            case 3:
                if (wanted) {
                    text.append("bit(");
                    expr(false, depth - 1);
                    text.append(",").append(random.nextInt(slip() ? width + 2 : width)).append(")");
                } else {
                    text.append("int(");
                    expr(true, depth - 1);
                    text.append(")");
                }
                break;
            default:
                binary(wanted, depth);
                break;
        }
    }

    /** Mostly in ( ): bare, it takes its neighbours in and is seldom sound. */
    private void choice(boolean bit, int depth) {
        boolean bare = random.nextInt(6) == 0;
        text.append(bare ? "" : "(");
        expr(true, depth - 2);
        text.append("?");
        expr(bit, depth - 1);
        text.append(":");
        expr(bit, depth - 1);
        text.append(bare ? "" : ")");
    }

    private void binary(boolean bit, int depth) {
        String[] ofBits = {"||", "&&", "|", "^", "&", "==", "!="};
        String[] compare = {"==", "!=", "<", "<=", ">", ">="};
        String[] ofInts = {"|", "^", "&", "+", "-", "+", "-", "*", "/", "%"};
        if (bit && random.nextBoolean()) {
            expr(false, depth - 1);
            text.append(compare[random.nextInt(compare.length)]);
            expr(false, depth - 1);
        } else if (bit) {
            expr(true, depth - 1);
            text.append(ofBits[random.nextInt(ofBits.length)]);
            expr(true, depth - 1);
        } else if (random.nextInt(5) == 0) {
            expr(false, depth - 1);
            text.append(random.nextBoolean() ? "<<" : " >> ");
            if (slip()) {
                expr(false, 1);
            } else {
                text.append(random.nextInt(width));
            }
        } else {
            expr(false, depth - 1);
            text.append(ofInts[random.nextInt(ofInts.length)]);
            expr(false, depth - 1);
        }
    }

    private void leaf(boolean bit, int depth) {
        List<Named> fitting = new ArrayList<>();
        for (Named n : scope) {
            if ((n.bit == bit || slip()) && (depth > -3 || n.size == 0 && !n.kind.equals("def"))) {
                fitting.add(n);
            }
        }
        if (fitting.isEmpty() || random.nextInt(6) == 0) {
            text.append(bit ? random.nextBoolean() ? "true" : "false" : String.valueOf(number()));
            return;
        }
        Named n = fitting.get(random.nextInt(fitting.size()));
        text.append(n.name);
        if (n.kind.equals("def")) {
            text.append("(");
            int count = n.params.size() + (slip() ? 1 : 0);
            for (int i = 0; i < count; i++) {
                text.append(i > 0 ? "," : "");
                expr(i < n.params.size() && n.params.get(i), Math.min(1, depth - 1));
            }
            text.append(")");
        } else if (n.size > 0) {
            text.append("[");
            index(n.size, Math.min(1, depth - 1));
            text.append("]");
        }
    }

    private long number() {
        return random.nextInt(4) == 0 ? random.nextLong() & 0xFFFFFFFFL : random.nextInt(10);
    }
}
