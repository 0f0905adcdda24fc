import java.util.NoSuchElementException;

/** What the tests share: telling what is not as due, and small lands to begin with. */
class Checks {
    static final Class<?> BOUNDS = IndexOutOfBoundsException.class;
    static final Class<?> ARGUMENT = IllegalArgumentException.class;
    static final Class<?> STATE = IllegalStateException.class;
    static final Class<?> UNSUPPORTED = UnsupportedOperationException.class;
    static final Class<?> MISSING = NoSuchElementException.class;
    static final Class<?> ARITHMETIC = ArithmeticException.class;

    interface Call {
        void run();
    }

    interface Taking {
        void take(int number);
    }

    private static final int MOST_TOLD = 40;
    private static int wrong;
    // Where the check stands, told ahead of what is wrong.
    private static String place = "";

    static void standAt(String where) {
        place = where;
    }

    static void tell(String what) {
        if (wrong++ < MOST_TOLD) {
            System.out.println(place + what);
        }
    }

    static void same(String what, double got, double want) {
        if (got != want) {
            tell(what + ": answered " + got + ", due is " + want);
        }
    }

    static void same(String what, String got, String want) {
        if (!got.equals(want)) {
            tell(what + ": answered " + got + ", due is " + want);
        }
    }

    static void yes(String what, boolean got) {
        if (!got) {
            tell(what + ": is false, due is true");
        }
    }

    static void no(String what, boolean got) {
        if (got) {
            tell(what + ": is true, due is false");
        }
    }

    static void fails(String what, Class<?> due, Call call) {
        try {
            call.run();
            tell(what + ": throws nothing, due is " + due.getSimpleName());
        } catch (RuntimeException e) {
            if (e.getClass() != due || !isOwn(e)) {
                tell(what + ": throws " + e + ", due is " + due.getSimpleName() + " of the program's own");
            }
        }
    }

    /** The class itself throws, with a written text, never the machine or the library in its place. */
    static boolean isOwn(Throwable e) {
        StackTraceElement[] places = e.getStackTrace();
        return e.getMessage() != null && places.length > 0 && places[0].getClassName().equals("Bandplan");
    }

    static void holds(String what, Call call) {
        try {
            call.run();
        } catch (RuntimeException e) {
            tell(what + ": throws " + e + ", due is nothing");
        }
    }

    /** The numbers at both ends are taken. */
    static void ends(int least, int most, Taking call) {
        for (int number : new int[] {least, most}) {
            holds("with " + number, () -> call.take(number));
        }
    }

    /** The numbers beyond both ends are refused, the nearest ones and the farthest ones. */
    static void beyond(Class<?> due, int least, int most, Taking call) {
        int[] numbers = {least - 1, most + 1, Integer.MIN_VALUE, Integer.MAX_VALUE};
        for (int number : numbers) {
            fails("with " + number, due, () -> call.take(number));
        }
    }

    /** Ends the test: with exit code 1 if anything was told. */
    static void end(String allIsWell) {
        System.out.println(wrong == 0 ? allIsWell : wrong + " checks failed");
        if (wrong != 0) {
            System.exit(1);
        }
    }

    /**
     * Two sites in one cell, the loss between them 200, and stations from one to the other: each
     * harms each other one by its power less 200. A power below 0 makes a secondary one.
     */
    static Bandplan oneCell(int... powers) {
        Bandplan x = new Bandplan();
        x.addSite(3, 3, 0);
        x.addSite(3, 3, 0);
        for (int power : powers) {
            x.addStation(0, 1, Math.abs(power), power > 0);
        }
        return x;
    }

    /** As many like stations in one cell, no two of which fit on one channel. */
    static Bandplan crowd(int stations) {
        int[] powers = new int[stations];
        java.util.Arrays.fill(powers, 400);
        return oneCell(powers);
    }

    /** Three stations, each in a cell of its own; the first one is 3 cells away from the others. */
    static Bandplan threeCells() {
        Bandplan x = new Bandplan();
        int[][] cells = {{0, 0}, {3, 0}, {0, 3}};
        for (int i = 0; i < 3; i++) {
            x.addSite(cells[i][0], cells[i][1], 0);
            x.addSite(cells[i][0], cells[i][1], 0);
            x.addStation(2 * i, 2 * i + 1, 500, true);
        }
        return x;
    }

    /** All that there can be: 10 sites, 8 stations, 4 bidders. */
    static Bandplan full() {
        Bandplan x = new Bandplan();
        for (int i = 0; i < 10; i++) {
            x.addSite(i, 3, i);
        }
        for (int i = 0; i < 8; i++) {
            x.addStation(i, i + 1, 400, i % 2 == 0);
        }
        for (int i = 0; i < 4; i++) {
            x.addBidder(40 - i, 20, i);
        }
        return x;
    }

    static void askAll(Bandplan x, int... prices) {
        for (int i = 0; i < prices.length; i++) {
            x.setAsked(i, prices[i]);
        }
    }

    /** Puts the stations on these channels, but for those of which it is below 0. */
    static void putAll(Bandplan x, int... channels) {
        for (int i = 0; i < channels.length; i++) {
            if (channels[i] >= 0) {
                x.putOn(i, channels[i]);
            }
        }
    }

    /** One cell, stations on these channels, which all stay in a selling. */
    static Bandplan sold(int channels, int[] places, int... powers) {
        Bandplan x = oneCell(powers);
        putAll(x, places);
        for (int i = 0; i < powers.length; i++) {
            x.setAsked(i, 100);
        }
        x.sell(50, 5, channels);
        return x;
    }
}
