/** Counts answers that are as due and prints those that are not. */
final class Due {
    private static int passed = 0;
    private static int failed = 0;
    /** How many answers were looked at under each promise's number, with which their text begins. */
    private static final int[] OF_PROMISE = new int[24];

    private Due() {
    }

    static void is(String what, long got, long want) {
        countPromise(what);
        if (got == want) {
            passed++;
        } else {
            failed++;
            System.out.println(what + " answered " + got + ", due is " + want);
        }
    }

    private static void countPromise(String what) {
        int blank = what.indexOf(' ');
        if (blank > 0 && what.substring(0, blank).matches("\\d{1,2}")) {
            OF_PROMISE[Integer.parseInt(what.substring(0, blank))]++;
        }
    }

    static void everyPromiseWasTested() {
        for (int promise = 1; promise <= 23; promise++) {
            holds("promise " + promise + " has hardly a test", OF_PROMISE[promise] >= 4);
        }
    }

    static void holds(String what, boolean so) {
        if (so) {
            passed++;
        } else {
            failed++;
            System.out.println(what);
        }
    }

    static void end() {
        System.out.println(passed + " passed, " + failed + " failed");
        if (failed != 0) {
            System.exit(1);
        }
    }

    static void write(LeftProfile x, String text) {
        for (char c : text.toCharArray()) {
            x.letter(c);
        }
    }

    /** A HALL that is FLOOR but for one PLACE. */
    static String wallOn(int place) {
        return floors(1 << place ^ (1 << 20) - 1);
    }

    /** A HALL that is WALL but for one PLACE (none: WALL alone). */
    static String floorOn(int place) {
        return floors(place < 0 ? 0 : 1 << place);
    }

    /** A HALL with FLOOR on the PLACES of a set of bits. */
    static String floors(int set) {
        StringBuilder text = new StringBuilder();
        for (int place = 0; place < 20; place++) {
            text.append(place > 0 && place % 5 == 0 ? "/" : "").append((set >> place & 1) != 0 ? '.' : '#');
        }
        return text.toString();
    }

    static LeftProfile in(String hall) {
        LeftProfile x = new LeftProfile();
        write(x, hall);
        x.hall();
        return x;
    }
}
