import java.util.ArrayList;
import java.util.Arrays;
import java.util.List;

/** The formulas of THE CIRCUIT word by word, over GATES of their own: LITERALS as the class tells them. */
final class Formulas {
    static final int ZERO = -2;
    static final int ONE = -1;

    private final int inputWires;
    private final int width;
    private final List<Integer> levels = new ArrayList<>();
    /** As Edges.gates wants them: kind, LEVEL and the two LITERALS. */
    final List<String> gates = new ArrayList<>();

    Formulas(int inputWires, int width) {
        this.inputWires = inputWires;
        this.width = width;
    }

    /** The bits of a word of inputs that begins at a wire. */
    int[] word(int wire) {
        int[] x = new int[width];
        for (int j = 0; j < width; j++) {
            x[j] = 2 * (wire + j);
        }
        return x;
    }

    int[] constant(long number) {
        int[] x = new int[width];
        for (int j = 0; j < width; j++) {
            x[j] = (number >> j & 1) == 1 ? ONE : ZERO;
        }
        return x;
    }

    int not(int x) {
        return x == ZERO ? ONE : x == ONE ? ZERO : x % 2 == 0 ? x + 1 : x - 1;
    }

    int[] not(int[] x) {
        return Arrays.stream(x).map(this::not).toArray();
    }

    private int level(int x) {
        return x < 2 * inputWires ? 0 : levels.get(x / 2 - inputWires);
    }

    private int gate(String kind, int level, int x, int y) {
        levels.add(level);
        gates.add(kind + level + " " + x + " " + y);
        return 2 * (inputWires + gates.size() - 1);
    }

    int xor(int x, int y) {
        if (x == ZERO || y == ZERO) {
            return x == ZERO ? y : x;
        }
        if (x == ONE || y == ONE) {
            return not(x == ONE ? y : x);
        }
        if (x / 2 == y / 2) {
            return x == y ? ZERO : ONE;
        }
        int g = gate("X", Math.max(level(x), level(y)), x / 2 * 2, y / 2 * 2);
        return x % 2 == y % 2 ? g : not(g);
    }

    int and(int x, int y) {
        if (x == ZERO || y == ZERO) {
            return ZERO;
        }
        if (x == ONE || y == ONE) {
            return x == ONE ? y : x;
        }
        if (x / 2 == y / 2) {
            return x == y ? x : ZERO;
        }
        return gate("A", Math.max(level(x), level(y)) + 1, x, y);
    }

    int mux(int c, int x, int y) {
        int inner = xor(x, y);
        int middle = and(c, inner);
        return xor(y, middle);
    }

    int[] mux(int c, int[] x, int[] y) {
        int[] z = new int[x.length];
        for (int j = 0; j < x.length; j++) {
            z[j] = mux(c, x[j], y[j]);
        }
        return z;
    }

    int equal(int[] x, int[] y) {
        List<Integer> left = new ArrayList<>();
        for (int j = 0; j < x.length; j++) {
            left.add(not(xor(x[j], y[j])));
        }
        while (left.size() >= 2) {
            List<Integer> made = new ArrayList<>();
            for (int i = 0; i < left.size(); i += 2) {
                made.add(i + 1 < left.size() ? and(left.get(i), left.get(i + 1)) : left.get(i));
            }
            left = made;
        }
        return left.get(0);
    }

    int[] sum(int[] x, int[] y, int carry) {
        int n = x.length;
        int[] s = new int[n];
        int c = carry;
        for (int j = 0; j < n; j++) {
            int u = xor(y[j], c);
            s[j] = xor(x[j], u);
            if (j < n - 1) {
                int t = xor(x[j], c);
                int both = and(t, u);
                c = xor(c, both);
            }
        }
        return s;
    }

    private int[] highestTurned(int[] x) {
        int[] turned = x.clone();
        turned[x.length - 1] = not(turned[x.length - 1]);
        return turned;
    }

    int less(int[] first, int[] second) {
        int[] x = highestTurned(first);
        int[] y = highestTurned(second);
        int c = ONE;
        for (int j = 0; j < x.length; j++) {
            int u = xor(not(y[j]), c);
            int t = xor(x[j], c);
            int both = and(t, u);
            c = xor(c, both);
        }
        return not(c);
    }

    int[] times(int[] x, int[] y) {
        int[] r = new int[width];
        for (int j = 0; j < width; j++) {
            r[j] = and(x[j], y[0]);
        }
        for (int k = 1; k < width; k++) {
            int[] q = new int[width - k];
            for (int j = 0; j <= width - 1 - k; j++) {
                q[j] = and(x[j], y[k]);
            }
            int[] sum = sum(Arrays.copyOfRange(r, k, width), q, ZERO);
            System.arraycopy(sum, 0, r, k, width - k);
        }
        return r;
    }

    /** Both: q, and R. */
    int[][] divide(int[] x, int[] y) {
        int[] high = Arrays.copyOf(y, width + 1);
        high[width] = ZERO;
        int[] q = new int[width];
        int[] r = constant(0);
        for (int k = width - 1; k >= 0; k--) {
            int[] s = new int[width + 1];
            s[0] = x[k];
            System.arraycopy(r, 0, s, 1, width);
            int[] d = new int[width];
            int c = ONE;
            for (int j = 0; j <= width; j++) {
                int u = xor(not(high[j]), c);
                if (j != width) {
                    d[j] = xor(s[j], u);
                }
                int t = xor(s[j], c);
                int both = and(t, u);
                c = xor(c, both);
            }
            q[k] = c;
            for (int j = 0; j < width; j++) {
                r[j] = mux(c, d[j], s[j]);
            }
        }
        return new int[][] {q, r};
    }

    /** Whether an index is k; none that a word can't be. */
    private int chosen(int[] i, int k) {
        return width < 30 && k >= 1 << width ? ZERO : equal(i, constant(k));
    }

    int[] element(int[][] a, int[] i) {
        int[] bits = new int[a[0].length];
        Arrays.fill(bits, ZERO);
        for (int k = 0; k < a.length; k++) {
            int e = chosen(i, k);
            for (int j = 0; j < bits.length; j++) {
                int both = and(e, a[k][j]);
                bits[j] = xor(bits[j], both);
            }
        }
        return bits;
    }

    void assign(int[][] a, int[] i, int[] v) {
        for (int k = 0; k < a.length; k++) {
            a[k] = mux(chosen(i, k), v, a[k]);
        }
    }

    int[] of(String operator, int[] x, int[] y) {
        switch (operator) {
            case "+":
                return sum(x, y, ZERO);
            case "-":
                return sum(x, not(y), ONE);
            case "*":
                return times(x, y);
            case "/":
                return divide(x, y)[0];
            case "%":
                return divide(x, y)[1];
            case "==":
                return new int[] {equal(x, y)};
            case "!=":
                return new int[] {not(equal(x, y))};
            case "<":
                return new int[] {less(x, y)};
            case "<=":
                return new int[] {not(less(y, x))};
            case ">":
                return new int[] {less(y, x)};
            case ">=":
                return new int[] {not(less(x, y))};
            default:
                throw new IllegalArgumentException(operator);
        }
    }
}
