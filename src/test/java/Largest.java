import java.util.LinkedHashMap;
import java.util.Map;

/** Texts that fill the class's rows as far as a tape of 4000 bytes can, for words of 32 bits. */
final class Largest {
    private static final int TAPE = 4000;
    private static final String FIRST = "abcdefghijklmnopqrstuvwxyzABCDEFGHIJKLMNOPQRSTUVWXYZ_";
    // An operator of each row, all of which wait for what stands behind the last one.
    private static final String TEN_ROWS = "true||true&&true|true^true&true==1<1<<0+0*";
    // The first and the last of 256 words: what is assigned to both may be all of them.
    private static final String ALL_WORDS =
        "input k of 0:int;var a:int;var b:int[64];var c:int[64];var d:int[64];var e:int[62];var z:int;";

    private Largest() {
    }

    static Map<String, String> sound() {
        Map<String, String> texts = new LinkedHashMap<>();
        texts.put("circuit", circuit());
        texts.put("ands", ands());
        texts.put("assignments", filled("var x:int;", "x=1;", "output x;"));
        texts.put("elements", filled("var x:int[3];", "x[1]=x[2];", "output x[1];"));
        texts.put("operands", filled("input a of 0:int;output a", "^a", ";"));
        texts.put("calls in a row", filled("def f(a:int):int=a;output 1", "+f(2)", ";"));
        texts.put("arguments", "def g(" + params(250) + "):int=aj;output g(0" + ",1".repeat(249) + ");");
        texts.put("names", filled("", "def %(" + params(53) + "):int=1;", "output 1;"));
        texts.put("params", "def f(" + params(570) + "):bit=true;");
        texts.put("vars", vars());
        texts.put("loops", filled("", "for i=0to 1{}", ""));
        texts.put("calls in one another", chain("", ""));
        texts.put("waiting calls", chain("1|1^1&1+1*(", ")"));
        texts.put("much waiting", chain("1|1^1&1+1*(".repeat(9), ")".repeat(9)));
        texts.put("waiting in all", chain("1|1^1&1+1*(".repeat(29), ")".repeat(29)));
        texts.put("outputs", filled("", "output 7;", ""));
        texts.put("ifs", ifs());
        texts.put("ifs behind else", elseIfs());
        texts.put("operators in one another",
            "output " + "true||true&&true|true^true&true==1<2<<0*int(".repeat(30) + "true" + ")".repeat(30) + ";");
        texts.put("ten rows in each", tenRows("int(", 30, TEN_ROWS + "1") + ";");
        texts.put("ten rows in each, and more of the last", tenRows("int(", 30, TEN_ROWS + "1*1/1%1*1") + ";");
        texts.put("ten rows in each, and more of all", tenRows("int(", 30, TEN_ROWS + "1+1<<1!=true&" + TEN_ROWS + "1")
            + ";");
        texts.put("ten rows in each, and what binds a FACTOR", tenRows("int(", 29, TEN_ROWS + "-1") + ";");
        texts.put("choices", "output " + "true?1:".repeat(30) + "2;");
        texts.put("blanks", filled("", " ", ""));
        texts.put("nothing", "");
        return texts;
    }

    /** Each is refused, as late as can be. */
    static Map<String, String> faulty() {
        Map<String, String> texts = new LinkedHashMap<>();
        texts.put("fault 1", filled("var x:int;", "x=1;", "x="));
        texts.put("fault 1 in one another", filled("var x:int;", "x=1;", "x=" + "(".repeat(30)));
        texts.put("fault 2", filled("", "for i=0to 1{}", "var abcdefghijklmnopq"));
        texts.put("fault 3", filled("var x:int;", "x=1;", "x=" + "-".repeat(31) + "1;"));
        texts.put("fault 1 where ten rows wait in each", tenRows("int(", 30, TEN_ROWS));
        texts.put("fault 1 behind ten rows in each", tenRows("int(", 30, TEN_ROWS + "1"));
        texts.put("fault 1 within ten rows in each", tenRows("int(", 30, TEN_ROWS + "1 1"));
        texts.put("fault 3 behind ten rows in each", tenRows("int(", 31, TEN_ROWS + "1") + ";");
        texts.put("fault 3 at a ? behind ten rows in each", tenRows("int(", 30, TEN_ROWS + "1?true:true") + ";");
        texts.put("fault 5 of ten rows in each", tenRows("(", 30, TEN_ROWS + "1") + ";");
        texts.put("fault 5 of ten rows in each [ ]", "var a:int[9];" + tenRows("a[", 30, TEN_ROWS + "1") + ";");
        texts.put("fault 5 of ten rows at last", tenRows("int(", 30, TEN_ROWS + "true") + ";");
        texts.put("fault 6 of ten rows in each call", "def f(b:bit):int=1;" + tenRows("f(", 30, TEN_ROWS + "1") + ";");
        texts.put("fault 7 of ten rows in each", tenRows("int(", 30, TEN_ROWS + "1+32") + ";");
        texts.put("fault 4", filled("var x:int;", "x=1;", "y=1;"));
        texts.put("fault 5", filled("var x:int;", "x=1;", "x=x;x=!1;"));
        texts.put("fault 6", filled("var x:int;", "x=1;", "x=1<<x;"));
        texts.put("fault 7", filled("var x:int;", "x=1;", "x=1<<32;"));
        texts.put("fault 8", circuit() + "output a[0]*a[1];");
        texts.put("many calls", filled("output 1", "+f()", ";"));
        texts.put("many names", filled("def f(", "a:int,", ""));
        texts.put("many ifs", filled("", "if(true){", ""));
        return texts;
    }

    /** An output without its ; whose EXPR has ten rows of operators waiting around each that lies in it. */
    private static String tenRows(String opens, int times, String last) {
        String closes = opens.endsWith("[") ? "]" : ")";
        return "output " + (TEN_ROWS + opens).repeat(times) + last + closes.repeat(times);
    }

    /** All wires that there can be, and LEVEL 2,000. */
    static String circuit() {
        return "input a of 2:int[64];input b of 3:int[64];input c of 15:int[64];input d of 0:int[64];"
            + "var p:bit=bit(a[0],0);var q:bit=bit(b[0],1);for i=0to 249{for j=0to 7{p=!(p&&q);}}var x:int;"
            + "for i=0to 236{for j=0to 4{x=a[i%64]&b[j];}}for i=0to 31{x=int(bit(c[0],i)^bit(d[0],i));}"
            + "for i=0to 31{x=int(bit(c[1],i)&&bit(d[1],i));}for i=0to 15{x=int(bit(c[2],i)&&bit(d[2],i));}"
            + "output p;output x;output a[0]&1;";
    }

    /** The most ANDs. */
    private static String ands() {
        return "input a of 0:int;input b of 1:int;var c:int;for i=0to 249{for j=0to 4{c=a&b;}}output c;";
    }

    private static String vars() {
        StringBuilder text = new StringBuilder();
        for (int i = 0; i < 256; i++) {
            text.append("var ").append(name(i)).append(":int;");
        }
        return text.toString();
    }

    private static String params(int count) {
        StringBuilder text = new StringBuilder();
        for (int i = 0; i < count; i++) {
            text.append(i == 0 ? "" : ",").append(name(i)).append(":int");
        }
        return text.toString();
    }

    /** Each def calls the one ahead of it, with something ahead of and behind the call. */
    private static String chain(String ahead, String behind) {
        StringBuilder text = new StringBuilder();
        String last = "";
        for (int i = 0; i < TAPE; i++) {
            String def = "def " + name(i) + "():int=" + ahead + (i == 0 ? "1" : last + "()") + behind + ";";
            if (text.length() + def.length() > TAPE - 20) {
                break;
            }
            text.append(def);
            last = name(i);
        }
        return text + "output 1+" + last + "();";
    }

    /** Each of 30 ifs keeps all 256 words of vars. */
    private static String ifs() {
        StringBuilder text = new StringBuilder(ALL_WORDS);
        for (int i = 0; i < 30; i++) {
            text.append("if(k!=").append(i).append("){a=").append(i).append(";z=k;");
            text.append(i < 28 ? "for i=0to 63{c[i]=" + i % 2 + ";}" : "");
        }
        return text + "}".repeat(30) + "output a;output c[3];output z;";
    }

    private static String elseIfs() {
        StringBuilder text = new StringBuilder(ALL_WORDS);
        for (int i = 0; i < 30; i++) {
            text.append("if(k==").append(i).append("){a=").append(i).append(";z=k;}else ");
        }
        return text + "{z=k;}output a;output z;";
    }

    /** As many of one and the same as fit between the other two; % stands for a NAME of its own. */
    private static String filled(String ahead, String many, String behind) {
        StringBuilder text = new StringBuilder(ahead);
        for (int i = 0; i < TAPE; i++) {
            String next = many.contains("%") ? many.replace("%", name(FIRST.length() + i)) : many;
            if (text.length() + next.length() + behind.length() > TAPE) {
                break;
            }
            text.append(next);
        }
        return text.append(behind).toString();
    }

    /** The i-th NAME, of as few bytes as can be (no word of the language has less than two). */
    private static String name(int i) {
        int n = FIRST.length();
        if (i < n) {
            return FIRST.substring(i, i + 1);
        }
        String name = FIRST.substring((i - n) / n, (i - n) / n + 1) + FIRST.charAt((i - n) % n);
        return name.equals("of") || name.equals("to") || name.equals("if") ? name + "_" : name;
    }
}
