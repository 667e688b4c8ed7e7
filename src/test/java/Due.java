/** Counts answers that are as due and prints those that are not. */
final class Due {
    private static int passed = 0;
    private static int failed = 0;

    private Due() {
    }

    static void is(String what, long got, long want) {
        if (got == want) {
            passed++;
        } else {
            failed++;
            System.out.println(what + " answered " + got + ", due is " + want);
        }
    }

    static void holds(String what, boolean so) {
        if (so) {
            passed++;
        } else {
            failed++;
            System.out.println(what);
        }
    }

    static void end() {
        System.out.println(passed + " passed, " + failed + " failed");
        if (failed != 0) {
            System.exit(1);
        }
    }

    static void write(LeftProfile x, String text) {
        for (char c : text.toCharArray()) {
            x.letter(c);
        }
    }

    static LeftProfile in(String hall) {
        LeftProfile x = new LeftProfile();
        write(x, hall);
        x.hall();
        return x;
    }
}
