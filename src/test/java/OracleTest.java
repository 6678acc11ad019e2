import java.util.Random;

/** ShareHouse beside the Oracle, of PROGRAMs made at random (all promises). */
public final class OracleTest {
    private static final Check CHECK = new Check("OracleTest");
    private static final int[] FAULTS = new int[9];

    public static void main(String[] args) throws InterruptedException {
        int count = args.length > 0 ? Integer.parseInt(args[0]) : 3000;
        long seed = args.length > 1 ? Long.parseLong(args[1]) : 1;
        CHECK.inDeepThread(() -> {
            for (int i = 0; i < count && CHECK.wrong() < 5; i++) {
                run(new Random(seed * 1_000_003 + i), "seed " + seed + " run " + i);
            }
        });
        StringBuilder told = new StringBuilder("sound: " + FAULTS[0]);
        for (int f = 1; f < FAULTS.length; f++) {
            told.append(", fault ").append(f).append(": ").append(FAULTS[f]);
        }
        System.out.println(told);
        CHECK.end();
    }

    private static void run(Random random, String run) {
        int parties = 2 + random.nextInt(random.nextInt(4) == 0 ? 15 : 3);
        int width = random.nextInt(3) == 0 ? 1 + random.nextInt(32) : 1 + random.nextInt(9);
        Beside beside = new Beside(CHECK, random, parties, width);
        Programs programs = new Programs(random, parties, width);
        Deep deep = new Deep(random);
        for (int i = 0; i < 2; i++) {
            String text = random.nextInt(5) == 0 ? deep.program() : programs.program();
            if (random.nextInt(3) == 0) {
                text = programs.spoiled(text);
            }
            if (text.length() > 4000) {
                continue;
            }
            int before = CHECK.wrong();
            FAULTS[beside.compare(text)]++;
            if (CHECK.wrong() != before) {
                System.out.println(run + ": parties " + parties + ", width " + width + ":\n" + text);
                return;
            }
        }
    }
}
