import java.util.ArrayList;
import java.util.List;
import java.util.Random;

/** The edges of what a PROGRAM may be, ShareHouse beside the Oracle (promises 4 to 8 and 12 to 21). */
public final class LimitsTest {
    private static final Check CHECK = new Check("LimitsTest");

    public static void main(String[] args) throws InterruptedException {
        CHECK.inDeepThread(() -> {
            steps();
            gates();
            levels();
            longChains();
            largeArrays();
            deepBlocks();
            fullRows();
            deepestDeal();
        });
        CHECK.end();
    }

    private static ShareHouse due(int parties, int width, int fault, String text) {
        String told = text.length() > 80 ? text.substring(0, 80) + " .." : text;
        Beside beside = new Beside(CHECK, new Random(7), parties, width);
        CHECK.same(told, beside.compare(text), fault);
        ShareHouse house = new ShareHouse(parties, width);
        CHECK.same(told, Check.compile(house, text), fault);
        return house;
    }

    private static void steps() {
        String most = "var x:bit;for i=0to 255{for j=0to 192{x=x;}}" + "x=x;".repeat(205);
        CHECK.same("look(8)", due(2, 8, 0, most + "x=x;").look(8), 100_000);
        CHECK.same("look(0)", due(2, 8, 8, most + "x=x; x=x;").look(0), most.length() + 5);
        CHECK.same("look(0)", due(2, 8, 8, most + "x=(x);").look(0), most.length());
        CHECK.same("look(0)", due(2, 8, 8, most + "x=x; output x;").look(0), most.length() + 5);
        CHECK.same("look(0)", due(2, 8, 8, most + "if(x){x=x;}").look(0), most.length() + 6);
        CHECK.same("look(0)", due(2, 8, 8, most + "for i=0to 1{}").look(0), most.length());
        for (int size = 90; size < 110; size++) {
            due(2, 8, size <= 96 ? 0 : 8, "var x:int;for i=0to 255{for j=0to 3{x=1" + "+1".repeat(size - 2) + ";}}");
        }
        StringBuilder defs = new StringBuilder("def f0(x:int):int=x+1;");
        for (int i = 1; i < 16; i++) {
            defs.append("def f").append(i).append("(x:int):int=f").append(i - 1).append("(f").append(i - 1)
                .append("(x));");
        }
        due(2, 4, 0, defs + "output f9(1);");
        due(2, 4, 8, defs + "output 1;output f15(1);");
        due(2, 8, 8, "for a=0to 255{for b=0to 255{for c=0to 255{}}}");
    }

    private static void gates() {
        String most = "input a of 0:int;input b of 1:int;var c:int;for i=0to 249{for j=0to 4{c=a&b;}}";
        CHECK.same("look(1)", due(2, 32, 0, most + "output c;").look(1), 40_000);
        CHECK.same("look(0)", due(2, 32, 8, most + "output bit(a,0)&&bit(b,0);").look(0), most.length());
        CHECK.same("look(0)", due(2, 32, 8, most + "output 1;output a^b;").look(0), most.length() + 9);
        CHECK.same("look(1)", due(2, 32, 0, most + "output ~c;output c<<1;output bit(c,3);").look(1), 40_000);
        String ints = "input a of 0:int;input b of 1:int;var c:int=a;var d:int[64];";
        for (String body : new String[] {"c=c*b;", "c=c/b;", "c=c%a+b;", "d[a]=b;", "c=d[b]+d[a];d[b]=c;",
            "if(a<b){c=c+a;}else{d[0]=c;}", "c=-c-b;", "c=a==b?c:c+1;"}) {
            due(2, 32, 8, ints + "for i=0to 255{" + "if(true){" + body + "}" + body + "}");
        }
        due(2, 32, 8, ints + "for i=0to 255{if(bit(a,i%32)){c=c+b;d[i%64]=c;}else if(a<c){d[b]=c;}}");
    }

    private static void levels() {
        String bits = "input p of 0:bit;var q:bit=p;input r of 1:bit;";
        CHECK.same("look(3)", due(2, 8, 0, bits + "for i=0to 249{for j=0to 7{q=!(q&&r);}}output q;").look(3), 2000);
        due(2, 8, 8, bits + "for i=0to 250{for j=0to 7{q=!(q&&r);}}output q;");
        due(3, 1, 0, bits + "for i=0to 49{for j=0to 1{q=q&r^p;}}output q;output r;");
        due(2, 32, 8, "input a of 0:int;var c:int=a;for i=0to 255{c=c*c;}output c;");
    }

    private static void longChains() {
        List<String> texts = new ArrayList<>();
        texts.add("input a of 0:int;output a" + "+a".repeat(1900) + ";");
        texts.add("input a of 0:bit;output a" + "&&a||a".repeat(600) + ";");
        texts.add("input a of 0:int;output a" + "*1+2-3^4".repeat(400) + ";");
        texts.add("output 1" + "==1==true".repeat(400) + ";");
        StringBuilder defs = new StringBuilder("def f0():int=1;");
        int last = 0;
        while (defs.length() < 3960) {
            defs.append("def f").append(last + 1).append("():int=f").append(last).append("();");
            last++;
        }
        texts.add(defs + "output f" + last + "();");
        StringBuilder params = new StringBuilder("def f(a0:int");
        StringBuilder call = new StringBuilder("output f(0");
        StringBuilder sum = new StringBuilder("a0");
        for (int i = 1; i < 200; i++) {
            params.append(",a").append(i).append(":int");
            call.append(",").append(i);
            sum.append("^").append("a").append(i);
        }
        texts.add(params + "):int=" + sum + ";" + call + ");");
        texts.add("output 1;".repeat(444));
        // Nine operators wait in each of what lies in one another (all ten: Largest).
        texts.add("output " + "true||true&&true|true^true&true==1<2+3*int(".repeat(30) + "true" + ")".repeat(30) + ";");
        texts.add("output " + "1*-".repeat(30) + "1;");
        for (String text : texts) {
            CHECK.holds("a text that fits, of " + text.length(), text.length() <= 4000);
            for (int width : new int[] {1, 5, 32}) {
                Beside beside = new Beside(CHECK, new Random(5), 2, width);
                beside.compare(text);
            }
        }
    }

    private static void largeArrays() {
        String inputs = "input a of 0:int[64];input b of 1:bit[64];input c of 2:int[64];input d of 0:bit[64];";
        String vars = "var w:int[64];var x:bit[64];var y:int[64]=7;var z:bit[64]=true;";
        for (int width : new int[] {1, 2, 5, 6, 7, 32}) {
            due(3, width, 0, inputs + vars);
            due(3, width, 0, inputs + "output a[c[0]];output d[c[0]];output b[a[0]];");
            due(3, width, 0, inputs + vars + "x[a[0]]=b[0];w[c[0]]=a[1];if(d[0]){z[0]=b[1];y[0]=a[0];}"
                + "output x[0];output x[1];output w[0];output w[63%2];output z[0];output y[0];output y[1];");
        }
    }

    private static void deepBlocks() {
        StringBuilder ifs = new StringBuilder("input a of 0:int;input p of 1:bit;var v:int[9]=a;");
        for (int i = 0; i < 29; i++) {
            ifs.append("if(bit(a,").append(i % 4).append(")!=p){v[").append(i % 9).append("]=v[").append(i * 5 % 9)
                .append("]+").append(i).append(";var w").append(i).append(":int=a;");
        }
        for (int i = 28; i >= 0; i--) {
            ifs.append(i % 3 == 0 ? "}else{v[a]=1;}" : "w" + i + "=w" + Math.max(0, i - 1) + "+1;}");
        }
        String text = ifs + "output v[0];output v[1];output v[2];output v[8];";
        CHECK.holds("a text that fits, of " + text.length(), text.length() <= 4000);
        due(2, 4, 0, text);
        due(2, 9, 0, text);
        StringBuilder chain = new StringBuilder("input a of 0:int;var v:int;if(a==0){v=1;}");
        for (int i = 1; i < 30; i++) {
            chain.append("else if(a==").append(i).append("){v=").append(i * i).append(";}");
        }
        due(2, 7, 0, chain + "else{v=a;}output v;");
        deepScopes();
    }

    /** What comes in within the 30th BLOCK is no more behind it, and what came in ahead of it still is. */
    private static void deepScopes() {
        for (String head : new String[] {"if(true){", "if(false){}else{", "for k%=0to 0{"}) {
            StringBuilder text = new StringBuilder();
            for (int i = 0; i < 30; i++) {
                text.append(head.replace("%", "" + i)).append("var v").append(i).append(":int=").append(i).append(";");
            }
            String open = text.toString();
            for (int i = 29; i >= 0; i--) {
                text.append("v").append(i).append("=1;}var v").append(i).append(":bit;");
            }
            due(2, 6, 0, text + "output v0;");
            String used = open + "}v29=1;" + "}".repeat(29);
            CHECK.same("look(0)", due(2, 6, 4, used).look(0), open.length() + 1);
            String again = open + "var v28:bit;" + "}".repeat(30);
            CHECK.same("look(0)", due(2, 6, 4, again).look(0), open.length() + 4);
        }
    }

    /** One object for all of them: what one leaves behind in the rows must not matter for the next one. */
    private static void fullRows() {
        Beside largest = new Beside(CHECK, new Random(9), 16, 32);
        Beside smallest = new Beside(CHECK, new Random(3), 2, 1);
        Largest.sound().forEach((name, text) -> {
            CHECK.same(name, largest.compare(text), 0);
            smallest.compare(text);
        });
        Largest.faulty().forEach((name, text) -> {
            CHECK.holds(name, largest.compare(text) > 0);
            smallest.compare(text);
        });
        CHECK.same("nothing", largest.compare(""), 0);
    }

    /** As many messages as there can be: no row of theirs is too short for the last of them. */
    private static void deepestDeal() {
        ShareHouse house = Check.built(16, 32, Largest.circuit());
        for (int by : new int[] {0, 7, Integer.MAX_VALUE}) {
            CHECK.holds("deal", house.deal());
            for (int k = 0; k < 4; k++) {
                CHECK.same("rush", house.rush(100_000, by), 100_000);
            }
            CHECK.same("rush", house.rush(100_000, by), 16 * 15 * 2002 - 400_000);
            CHECK.same("rush", house.rush(100_000, by), 0);
            CHECK.same("look(10)", house.look(10), 16 * 15 * 2002);
            CHECK.same("look(11)", house.look(11), 16);
            for (int p = 0; p < 16; p++) {
                CHECK.same("party(" + p + ", 1)", house.party(p, 1), 15 * 2002);
                for (int k = 0; k < 3; k++) {
                    CHECK.same("told(" + p + ", " + k + ")", house.told(p, k), house.truth(k));
                }
            }
        }
        house.deal();
        house.rush(100_000, 0);
        for (int k = 0; k < 4; k++) {
            house.rush(100_000, 0);
        }
        for (int p = 0; p < 16; p++) {
            lastRound(house, p, house.literal(0, 0));
        }
    }

    /** The first bits of the messages of the last round and one's own share make the first output's bit. */
    private static void lastRound(ShareHouse house, int p, int literal) {
        int bits = 1 + 32 + 32;
        int first = house.party(p, 2) - 15 * bits;
        int all = house.share(p, literal / 2) ^ (p == 0 ? literal & 1 : 0);
        for (int q = 0; q < 15; q++) {
            all ^= house.view(p, first + q * bits);
        }
        CHECK.same("bits of the last round to " + p, all, house.told(p, 0));
        CHECK.same("view(" + p + ", end)", house.view(p, first + 15 * bits), -1);
    }
}
