import com.sun.management.ThreadMXBean;
import java.lang.management.ManagementFactory;

/** What a run of 512 calls makes must fit in one room: 600,000 objects, 7.3 million fields and elements. */
public final class RoomTest {
    // An int has 4 bytes and rows of smaller ones are short here: so bytes / 4 is near the count of elements.
    private static final long MOST_BYTES = 4L * 7_300_000 / 2;
    private static final Check CHECK = new Check("RoomTest");
    private static final ThreadMXBean BEAN = (ThreadMXBean) ManagementFactory.getThreadMXBean();

    public static void main(String[] args) {
        long before = made();
        for (int i = 0; i < 100; i++) {
            new ShareHouse(16, 32);
        }
        CHECK.holds("a new object is small: " + (made() - before) / 100, made() - before < 100 * 70_000);
        manyFaults();
        growingCircuits();
        largestDeals();
        widestIfs();
        CHECK.end();
    }

    private static long made() {
        return BEAN.getThreadAllocatedBytes(Thread.currentThread().getId());
    }

    private static void holds(String what, long bytes) {
        System.out.println(what + ": " + bytes / 1000 + " kB");
        CHECK.holds(what + ": " + bytes + " bytes", bytes < MOST_BYTES);
    }

    private static void put(ShareHouse x, String text) {
        Check.put(x, text);
    }

    private static void manyFaults() {
        ShareHouse x = new ShareHouse(2, 32);
        long before = made();
        for (int i = 0; i < 170; i++) {
            x.feed(0x6F757470, 0x75742078, 0x3B202020, 0, 0);
            x.end(9);
            CHECK.same("compile", x.compile(), 4);
        }
        holds("faults", made() - before);
    }

    private static void growingCircuits() {
        String[] texts = new String[60];
        for (int i = 0; i < texts.length; i++) {
            texts[i] = "input a of 0:int;input b of 1:int[" + (i + 1) + "];var c:int[" + (i + 1) + "];for i=0to " + i
                + "{if(a<b[i]){c[i]=c[i]+a*b[i];}}output c[a];";
        }
        ShareHouse x = new ShareHouse(16, 16);
        long inPut = 0;
        long before = made();
        for (String text : texts) {
            long from = made();
            put(x, text);
            inPut += made() - from;
            x.compile();
            x.deal();
            x.rush(100_000, 5);
            x.truth(0);
            x.view(15, x.party(15, 2) - 1);
        }
        holds("growing circuits", made() - before - inPut);
    }

    private static void largestDeals() {
        String text = "input p of 0:bit;var q:bit=p;input r of 1:bit[64];input a of 2:int[64];input b of 3:int;var c:int;"
            + "for i=0to 249{for j=0to 7{q=!(q&&r[0]);}}for i=0to 236{for j=0to 4{c=a[i%64]&b;}}output q;output c;";
        ShareHouse x = new ShareHouse(16, 32);
        put(x, text);
        long before = made();
        CHECK.same("compile", x.compile(), 0);
        CHECK.same("D", x.look(3), 2000);
        CHECK.holds("gates", x.look(1) > 39_000);
        for (int i = 0; i < 4; i++) {
            x.deal();
            for (int k = 0; k < 6; k++) {
                x.rush(100_000, k * 31);
            }
            CHECK.same("done", x.look(11), 16);
            CHECK.same("told", x.told(7, 1), x.truth(1));
            for (int k = 0; k < 60; k++) {
                x.view(9, x.party(9, 2) - 1);
            }
        }
        holds("largest deals", made() - before);
    }

    private static void widestIfs() {
        StringBuilder text = new StringBuilder("input a of 0:int;var v:int[64];var w:int[64];var x:int[64];var y:int[62];");
        text.append("var p:bit;var z:int;");
        for (int i = 0; i < 29; i++) {
            text.append("if(bit(a,").append(i).append(")){v[0]=a;z=a;");
        }
        text.append("}".repeat(29));
        ShareHouse x = new ShareHouse(2, 32);
        put(x, text.toString());
        long before = made();
        CHECK.same("compile", x.compile(), 0);
        holds("widest ifs", made() - before);
    }
}
