import java.util.Random;

/** Makes PROGRAMs at random whose EXPRs and BLOCKs lie in one another as deep as they may, or a little deeper. */
final class Deep {
    private static final String HEAD = "input i of 0:int;input b of 1:bit;input j of 1:int[3];var v:int=i;var w:bit[2]=b;"
        + "def f():int=2;def g(p:bit):int=int(p);def h(p:int,q:bit):bit=q^bit(p,0);";
    private static final String[] WEAK = {"||", "&&", "|", "^", "&"};
    private static final String[][] STRONG = {{"<<", ">>"}, {"+", "-"}, {"*", "/", "%"}};
    private static final String[] COMPARE = {"<", "<=", ">", ">="};

    private final Random random;
    private StringBuilder text;
    private int left;
    /** Of a hundred operators, how many are there. */
    private int dense;
    /** Whether there is anything that is not PUBLIC. */
    private boolean open;
    /** In each of what lies in one another all ten rows wait. */
    private boolean full;

    Deep(Random random) {
        this.random = random;
    }

    String program() {
        text = new StringBuilder(HEAD);
        full = random.nextInt(4) == 0;
        dense = full || random.nextBoolean() ? 100 : random.nextInt(100);
        open = !full && random.nextBoolean();
        left = 28 + random.nextInt(random.nextInt(3) == 0 ? 5 : 3);
        int blocks = random.nextInt(3) == 0 ? random.nextInt(left + 1) : random.nextInt(4);
        if (blocks == 0) {
            text.append("output ");
            expr(full || random.nextBoolean());
            text.append(";");
        } else {
            statement(blocks);
        }
        return text.append("output v;output w[0];").toString();
    }

    /** As many BLOCKs in one another, and in the last one EXPRs that take up what is left. */
    private void statement(int blocks) {
        int before = left;
        if (blocks == 0) {
            text.append(random.nextBoolean() ? "v=" : "v=i+");
            expr(false);
            text.append(";");
        } else if (random.nextInt(4) == 0) {
            text.append("for k").append(left).append("=0to ").append(random.nextInt(2)).append("{");
            left--;
            statement(blocks - 1);
            text.append("}");
        } else {
            branch(blocks);
        }
        left = before;
    }

    private void branch(int blocks) {
        text.append("if(").append(random.nextBoolean() ? "b" : "i<v").append("){");
        text.append(random.nextBoolean() ? "v=v^1;" : "");
        boolean otherwise = false;
        left--;
        if (random.nextInt(3) == 0) {
            text.append("}else ");
            otherwise = random.nextBoolean();
            text.append(otherwise ? "{" : "if(w[0]){");
            left -= otherwise ? 0 : 1;
        }
        statement(Math.max(0, Math.min(blocks - 1, left)));
        text.append("}");
        text.append(!otherwise && random.nextInt(4) == 0 ? "else{w[1]=!w[0];}" : "");
    }

    private boolean present() {
        return random.nextInt(100) < dense;
    }

    /** Operators of ever stronger rows, so that all of them wait for the last FACTOR. */
    private void expr(boolean bit) {
        if (left > 0 && random.nextInt(dense == 100 ? 60 : 8) == 0) {
            choice(bit);
            return;
        }
        for (String operator : WEAK) {
            boolean ofBits = operator.equals("||") || operator.equals("&&");
            if (present() && (bit || !ofBits)) {
                leaf(bit);
                text.append(operator);
            }
        }
        boolean ofInts = !bit;
        if (bit && present()) {
            leaf(true);
            text.append(random.nextBoolean() ? "==" : "!=");
            if (present()) {
                leaf(false);
                text.append(COMPARE[random.nextInt(COMPARE.length)]);
                ofInts = true;
            }
        }
        if (ofInts) {
            strong();
        }
        factor(!ofInts);
    }

    /** What stands right of a shift is mostly 0: few numbers are below W. */
    private void strong() {
        boolean low = false;
        for (String[] row : STRONG) {
            boolean shift = row[0].equals("<<");
            if (present() && (!shift || !open)) {
                String operator = row[low ? 0 : random.nextInt(row.length)];
                if (low) {
                    text.append("0");
                } else {
                    leaf(false);
                }
                text.append(operator);
                low = low || shift && random.nextInt(30) > 0;
            }
        }
    }

    private void choice(boolean bit) {
        leaf(true);
        text.append("?");
        left--;
        if (random.nextBoolean()) {
            leaf(bit);
            text.append(":");
            expr(bit);
        } else {
            expr(bit);
            text.append(":");
            leaf(bit);
        }
        left++;
    }

    private void factor(boolean bit) {
        if (left <= 0) {
            leaf(bit);
            return;
        }
        left--;
        if (full && random.nextInt(40) > 0) {
            within(bit ? "(" : "int(", true, ")");
        } else if (bit) {
            factorOfBit();
        } else {
            factorOfInt();
        }
        left++;
    }

    private void factorOfBit() {
        switch (random.nextInt(open ? 6 : 3)) {
            case 0:
                within("(", true, ")");
                break;
            case 1:
                text.append("!");
                factor(true);
                break;
            case 2:
                within("bit(", false, random.nextInt(20) == 0 ? ",i)" : ",0)");
                break;
            case 3:
                within("h(", false, ",b)");
                break;
            case 4:
                within("h(i,", true, ")");
                break;
            default:
                within("w[", false, "]");
                break;
        }
    }

    private void factorOfInt() {
        switch (random.nextInt(open ? 7 : 4)) {
            case 0:
                within("(", false, ")");
                break;
            case 1:
            case 2:
                within("int(", true, ")");
                break;
            case 3:
                text.append(random.nextBoolean() ? "-" : "~");
                factor(false);
                break;
            case 4:
                within("g(", true, ")");
                break;
            case 5:
                within("j[", false, "]");
                break;
            default:
                text.append("f()");
                break;
        }
    }

    private void within(String ahead, boolean bit, String behind) {
        text.append(ahead);
        expr(bit);
        text.append(behind);
    }

    private void leaf(boolean bit) {
        boolean named = open && random.nextInt(4) == 0;
        if (bit) {
            text.append(named ? "b" : random.nextBoolean() ? "true" : "false");
        } else {
            text.append(named ? "i" : String.valueOf(random.nextInt(2)));
        }
    }
}
