/** Counts the answers that are not the ones that are due, and tells them. */
final class Check {
    private static final int MOST_TOLD = 40;

    private final String name;
    private long asked;
    private int wrong;

    Check(String name) {
        this.name = name;
    }

    boolean same(String call, long got, long due) {
        asked++;
        if (got == due) {
            return true;
        }
        wrong++;
        if (wrong <= MOST_TOLD) {
            System.out.println(name + ": " + call + " answered " + got + ", due is " + due);
        }
        return false;
    }

    boolean holds(String what, boolean is) {
        return same(what, is ? 1 : 0, 1);
    }

    /** The Oracle goes over its trees by calls in one another: these need room. */
    void inDeepThread(Runnable work) throws InterruptedException {
        Thread thread = new Thread(null, work, name, 1L << 29);
        thread.setUncaughtExceptionHandler((t, e) -> {
            e.printStackTrace();
            holds("no exception", false);
        });
        thread.start();
        thread.join();
    }

    int wrong() {
        return wrong;
    }

    void end() {
        System.out.println(name + ": " + asked + " answers, " + wrong + " not as due");
        if (wrong > 0 || asked == 0) {
            System.exit(1);
        }
    }

    /** Puts a text on the tape, however long; the tape's length, or NONE if it did not take all of it. */
    static int put(ShareHouse house, String text) {
        int length = 0;
        for (int from = 0; from < text.length(); from += 20) {
            int[] words = new int[5];
            int n = Math.min(20, text.length() - from);
            for (int i = 0; i < n; i++) {
                words[i / 4] |= text.charAt(from + i) << (24 - i % 4 * 8);
            }
            house.feed(words[0], words[1], words[2], words[3], words[4]);
            length = house.end(n);
            if (length == ShareHouse.NONE) {
                return ShareHouse.NONE;
            }
        }
        return length;
    }

    static int compile(ShareHouse house, String text) {
        put(house, text);
        return house.compile();
    }

    static ShareHouse built(int parties, int width, String text) {
        ShareHouse house = new ShareHouse(parties, width);
        int fault = compile(house, text);
        if (fault != 0) {
            throw new IllegalStateException("fault " + fault + " at " + house.look(0) + " of " + text);
        }
        return house;
    }
}
