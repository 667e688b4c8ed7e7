import java.util.function.Supplier;
import java.util.function.ToIntFunction;
import java.util.stream.IntStream;

/**
 * Every refusal of every call, promise by promise: at the boundary itself, at the first number beyond it on each side
 * and far from it; of several the first as told by the call; and nothing has changed behind it.
 */
public final class RefusalsTest {
    private static final int NONE = -1, UNKNOWN = -101, OUTSIDE = -102, STATE = -103, FULL = -104;
    private static final String OPEN = "...../...../...../.....";
    /** FLOOR are 0, 2, 4, 5, 7, 9, 10 to 14, 16, 17, 18. */
    private static final String PILLARS = ".#.#./.#.#./...../#...#";
    private static final int WALL = 1, EMPTY = 9, DUKE = 13, FIRST = 0, SECOND = 10;
    private static final int[] PLACES = {FIRST, SECOND, 14, 2, 17, 18};

    public static void main(String[] args) {
        letter();
        hall();
        on();
        duke();
        courtier();
        courtierWhereSixStand();
        about();
        as();
        go();
        act();
        actThatCannotBe();
        room();
        brick();
        way();
        told();
        stood();
        walk();
        image();
        restore();
        count();
        Due.end();
    }

    // ---- states

    private static LeftProfile written(String page) {
        LeftProfile x = new LeftProfile();
        Due.write(x, page);
        return x;
    }

    /** A HALL where much has been, so that whatever changes shows; the IMAGE is another than what is now. */
    private static LeftProfile busy(int courtiers) {
        LeftProfile x = Due.in(PILLARS);
        for (int n = 0; n < courtiers; n++) {
            x.courtier((n + 3) % 5, PLACES[n]);
            x.told(n, n % 5);
        }
        x.duke(12, 0);
        x.act(1);
        x.image();
        x.told(0, 2);
        x.act(2);
        x.act(0);
        Due.write(x, "#.");
        return x;
    }

    private static LeftProfile busyWithPage(String page) {
        LeftProfile x = busy(3);
        x.blank();
        Due.write(x, page);
        return x;
    }

    private static LeftProfile withoutDuke() {
        LeftProfile x = Due.in(PILLARS);
        x.courtier(0, FIRST);
        x.courtier(3, SECOND);
        x.image();
        x.told(0, 4);
        return x;
    }

    private static LeftProfile dukeOn(String hall, int place, int side) {
        LeftProfile x = Due.in(hall);
        x.duke(place, side);
        return x;
    }

    // ---- how it is asked

    private static void refuses(String call, int due, Supplier<LeftProfile> state, ToIntFunction<LeftProfile> asked) {
        LeftProfile x = state.get();
        Due.is(call, asked.applyAsInt(x), due);
        Due.is(call + " once more", asked.applyAsInt(x), due);
        Due.holds(call + " changed something", Everything.of(x).equals(Everything.of(state.get())));
    }

    private static void answers(String call, int due, Supplier<LeftProfile> state, ToIntFunction<LeftProfile> asked) {
        Due.is(call, asked.applyAsInt(state.get()), due);
    }

    /** The first numbers beyond, some that a narrower type or a set of bits would take for others, and the last ones. */
    private static int[] beyond(int low, int high) {
        return IntStream.of(low - 1, high + 1, low - 2, high + 2, low + 32, low + 64, low - 32, low + 128, low + 256,
                        low - 256, low + 65536, high + 65536, low - 65536, low + (1 << 30), Integer.MIN_VALUE + low,
                        Integer.MIN_VALUE, Integer.MAX_VALUE, UNKNOWN, OUTSIDE, STATE, FULL)
                .filter(n -> n < low || n > high).toArray();
    }

    // ---- promise by promise

    private static void letter() {
        for (int code : beyond(32, 126)) {
            refuses("2 letter(" + code + ")", OUTSIDE, LeftProfile::new, x -> x.letter(code));
            refuses("2 letter(" + code + ") of a full page", OUTSIDE, () -> written(OPEN + "."), x -> x.letter(code));
            refuses("2 letter(" + code + ") in a hall", OUTSIDE, () -> busy(6), x -> x.letter(code));
        }
        for (int code = 32; code <= 126; code++) {
            int letter = code;
            answers("2 letter(" + code + ")", 1, LeftProfile::new, x -> x.letter(letter));
            answers("2 letter(" + code + ") in a hall", 3, () -> busy(6), x -> x.letter(letter));
            refuses("2 letter(" + code + ") of a full page", FULL, () -> written(OPEN + "."), x -> x.letter(letter));
        }
        answers("2 the 23rd", 23, () -> written(OPEN.substring(1)), x -> x.letter('.'));
        answers("2 the 24th", 24, () -> written(OPEN), x -> x.letter('.'));
        refuses("2 the 25th", FULL, () -> written(OPEN + "."), x -> x.letter('.'));
        refuses("2 the 25th in a hall", FULL, () -> busyWithPage(OPEN + "/"), x -> x.letter('.'));
    }

    private static void hall() {
        String[] none = {"", ".", "....", ".....", OPEN.substring(1), OPEN.substring(0, 22), OPEN + ".", OPEN + "/",
            OPEN + "#", "/..../...../...../.....", "..........." + OPEN.substring(11), "x" + OPEN.substring(1),
            OPEN.substring(0, 22) + "/", OPEN.substring(0, 22) + " ", OPEN.replace('/', '.'), OPEN.replace('/', '\\'),
            "......./......./.......", "..../..../..../..../...", "....../....../........."};
        for (String page : none) {
            refuses("5 hall() of \"" + page + "\"", STATE, () -> written(page), LeftProfile::hall);
            refuses("5 another hall() of \"" + page + "\"", STATE, () -> busyWithPage(page), LeftProfile::hall);
        }
        answers("5 hall()", 20, () -> written(OPEN), LeftProfile::hall);
        answers("5 another hall()", 20, () -> busyWithPage(OPEN), LeftProfile::hall);
    }

    private static void on() {
        for (int place : beyond(0, 19)) {
            refuses("6 on(" + place + ")", UNKNOWN, () -> busy(3), x -> x.on(place));
            refuses("6 on(" + place + ") without a hall", UNKNOWN, LeftProfile::new, x -> x.on(place));
        }
        for (int n = 0; n <= 19; n++) {
            int place = n;
            refuses("6 on(" + place + ") without a hall", STATE, () -> written(OPEN), x -> x.on(place));
        }
        answers("6 on(0)", 0, () -> busy(3), x -> x.on(0));
        answers("6 on(19)", -2, () -> busy(3), x -> x.on(19));
    }

    private static void duke() {
        for (int place : beyond(0, 19)) {
            refuses("7 duke(" + place + ", 0)", UNKNOWN, () -> busy(3), x -> x.duke(place, 0));
            refuses("7 duke(" + place + ", 4)", UNKNOWN, () -> busy(3), x -> x.duke(place, 4));
            refuses("7 duke(" + place + ", -1)", UNKNOWN, LeftProfile::new, x -> x.duke(place, -1));
            refuses("7 duke(" + place + ", 3) without a hall", UNKNOWN, LeftProfile::new, x -> x.duke(place, 3));
        }
        for (int side : beyond(0, 3)) {
            for (int place : new int[] {EMPTY, WALL, FIRST, DUKE}) {
                String call = "7 duke(" + place + ", " + side + ")";
                refuses(call, OUTSIDE, () -> busy(3), x -> x.duke(place, side));
                refuses(call + " without a hall", OUTSIDE, LeftProfile::new, x -> x.duke(place, side));
            }
        }
        for (int n = 0; n <= 3; n++) {
            int side = n;
            refuses("7 without a hall", STATE, () -> written(OPEN), x -> x.duke(0, side));
            refuses("7 on a wall", STATE, () -> busy(3), x -> x.duke(WALL, side));
            refuses("7 on a wall at the end", STATE, () -> busy(3), x -> x.duke(19, side));
            refuses("7 on a courtier", STATE, () -> busy(3), x -> x.duke(FIRST, side));
            refuses("7 on the last courtier", STATE, () -> busy(6), x -> x.duke(PLACES[5], side));
            refuses("7 on a courtier, no duke so far", STATE, RefusalsTest::withoutDuke, x -> x.duke(SECOND, side));
            answers("7 where he is", 4 * DUKE + side, () -> busy(3), x -> x.duke(DUKE, side));
            answers("7 on empty floor", 4 * EMPTY + side, () -> busy(3), x -> x.duke(EMPTY, side));
            answers("7 on 0", side, () -> Due.in(OPEN), x -> x.duke(0, side));
            answers("7 on 19", 76 + side, () -> Due.in(OPEN), x -> x.duke(19, side));
        }
    }

    private static void courtier() {
        for (int place : beyond(0, 19)) {
            refuses("8 courtier(0, " + place + ")", UNKNOWN, () -> busy(3), x -> x.courtier(0, place));
            refuses("8 courtier(5, " + place + ")", UNKNOWN, () -> busy(3), x -> x.courtier(5, place));
            refuses("8 courtier(-1, " + place + ")", UNKNOWN, LeftProfile::new, x -> x.courtier(-1, place));
            refuses("8 courtier(4, " + place + ")", UNKNOWN, LeftProfile::new, x -> x.courtier(4, place));
        }
        for (int kind : beyond(0, 4)) {
            for (int place : new int[] {EMPTY, WALL, FIRST, DUKE}) {
                String call = "8 courtier(" + kind + ", " + place + ")";
                refuses(call, OUTSIDE, () -> busy(3), x -> x.courtier(kind, place));
                refuses(call + " without a hall", OUTSIDE, LeftProfile::new, x -> x.courtier(kind, place));
            }
        }
        for (int n = 0; n <= 4; n++) {
            int kind = n;
            refuses("8 without a hall", STATE, () -> written(OPEN), x -> x.courtier(kind, 0));
            refuses("8 on a wall", STATE, () -> busy(3), x -> x.courtier(kind, WALL));
            refuses("8 on a courtier", STATE, () -> busy(3), x -> x.courtier(kind, FIRST));
            refuses("8 on the latest courtier", STATE, () -> busy(3), x -> x.courtier(kind, PLACES[2]));
            refuses("8 on the duke", STATE, () -> busy(3), x -> x.courtier(kind, DUKE));
            answers("8 of kind " + kind, 3, () -> busy(3), x -> x.courtier(kind, EMPTY));
            answers("8 on 0", 0, () -> Due.in(OPEN), x -> x.courtier(kind, 0));
            answers("8 on 19", 0, () -> Due.in(OPEN), x -> x.courtier(kind, 19));
        }
    }

    private static void courtierWhereSixStand() {
        answers("8 the fifth", 4, () -> busy(4), x -> x.courtier(0, EMPTY));
        answers("8 the sixth", 5, () -> busy(5), x -> x.courtier(0, EMPTY));
        for (int n = 0; n <= 4; n++) {
            int kind = n;
            refuses("8 the seventh", FULL, () -> busy(6), x -> x.courtier(kind, EMPTY));
            refuses("8 the seventh on a wall", STATE, () -> busy(6), x -> x.courtier(kind, WALL));
            refuses("8 the seventh on a courtier", STATE, () -> busy(6), x -> x.courtier(kind, FIRST));
            refuses("8 the seventh on the sixth", STATE, () -> busy(6), x -> x.courtier(kind, PLACES[5]));
            refuses("8 the seventh on the duke", STATE, () -> busy(6), x -> x.courtier(kind, DUKE));
        }
        refuses("8 the seventh, of no kind", OUTSIDE, () -> busy(6), x -> x.courtier(5, EMPTY));
        refuses("8 the seventh, nowhere", UNKNOWN, () -> busy(6), x -> x.courtier(0, 20));
        refuses("8 the seventh, of no kind, nowhere", UNKNOWN, () -> busy(6), x -> x.courtier(5, 20));
    }

    /** Each number that names no COURTIER, where there are none, some and six; and where there is no HALL. */
    private static void refusesNobody(String call, ToIntFunctionOfTwo asked) {
        for (int many : new int[] {0, 1, 5, 6}) {
            for (int nobody : beyond(0, many - 1)) {
                refuses(call + " of " + nobody + " where " + many + " stand", UNKNOWN, () -> busy(many),
                        x -> asked.of(x, nobody));
            }
        }
        for (int nobody : beyond(0, -1)) {
            refuses(call + " of " + nobody + " without a hall", UNKNOWN, LeftProfile::new, x -> asked.of(x, nobody));
        }
    }

    private interface ToIntFunctionOfTwo {
        int of(LeftProfile x, int number);
    }

    private static void about() {
        refusesNobody("9 about(.., 0)", (x, nobody) -> x.about(nobody, 0));
        refusesNobody("9 about(.., 5)", (x, nobody) -> x.about(nobody, 5));
        refusesNobody("9 about(.., 6)", (x, nobody) -> x.about(nobody, 6));
        refusesNobody("9 about(.., -1)", (x, nobody) -> x.about(nobody, -1));
        for (int what : beyond(0, 5)) {
            refuses("9 about(0, " + what + ")", OUTSIDE, () -> busy(1), x -> x.about(0, what));
            refuses("9 about(5, " + what + ")", OUTSIDE, () -> busy(6), x -> x.about(5, what));
        }
        answers("9 about(0, 0) of one", 3, () -> busy(1), x -> x.about(0, 0));
        answers("9 about(5, 1) of six", PLACES[5], () -> busy(6), x -> x.about(5, 1));
    }

    private static void as() {
        refusesNobody("10 as(.., 0)", (x, nobody) -> x.as(nobody, 0));
        refusesNobody("10 as(.., 4)", (x, nobody) -> x.as(nobody, 4));
        refusesNobody("10 as(.., 5)", (x, nobody) -> x.as(nobody, 5));
        refusesNobody("10 as(.., -1)", (x, nobody) -> x.as(nobody, -1));
        for (int kind : beyond(0, 4)) {
            refuses("10 as(0, " + kind + ")", OUTSIDE, () -> busy(1), x -> x.as(0, kind));
            refuses("10 as(5, " + kind + ")", OUTSIDE, () -> busy(6), x -> x.as(5, kind));
        }
        refuses("10 the cast fails", NONE, () -> busy(1), x -> x.as(0, 4));
        answers("10 as(5, 0) of six", 5, () -> busy(6), x -> x.as(5, 0));
    }

    private static void go() {
        refusesNobody("11 go(.., 9)", (x, nobody) -> x.go(nobody, EMPTY));
        refusesNobody("11 go(.., 1)", (x, nobody) -> x.go(nobody, WALL));
        refusesNobody("11 go(.., 13)", (x, nobody) -> x.go(nobody, DUKE));
        refusesNobody("11 go(.., 20)", (x, nobody) -> x.go(nobody, 20));
        for (int place : beyond(0, 19)) {
            refuses("11 go(0, " + place + ")", UNKNOWN, () -> busy(1), x -> x.go(0, place));
            refuses("11 go(5, " + place + ")", UNKNOWN, () -> busy(6), x -> x.go(5, place));
        }
        for (int n = 0; n < 6; n++) {
            int who = n;
            refuses("11 to a wall", STATE, () -> busy(6), x -> x.go(who, WALL));
            refuses("11 to the duke", STATE, () -> busy(6), x -> x.go(who, DUKE));
            for (int place : PLACES) {
                refuses("11 " + who + " to " + place, STATE, () -> busy(6), x -> x.go(who, place));
            }
            answers("11 to empty floor", PLACES[who], () -> busy(6), x -> x.go(who, EMPTY));
        }
        refuses("11 to himself, no duke there", STATE, RefusalsTest::withoutDuke, x -> x.go(1, SECOND));
        answers("11 to 0", SECOND, () -> { LeftProfile x = Due.in(OPEN); x.courtier(0, SECOND); return x; }, x -> x.go(0, 0));
        answers("11 to 19", SECOND, () -> { LeftProfile x = Due.in(OPEN); x.courtier(0, SECOND); return x; }, x -> x.go(0, 19));
    }

    private static void act() {
        for (int act : beyond(0, 2)) {
            refuses("12 act(" + act + ")", OUTSIDE, () -> busy(3), x -> x.act(act));
            refuses("12 act(" + act + ") without a duke", OUTSIDE, RefusalsTest::withoutDuke, x -> x.act(act));
            refuses("12 act(" + act + ") without a hall", OUTSIDE, LeftProfile::new, x -> x.act(act));
        }
        for (int n = 0; n <= 2; n++) {
            int act = n;
            refuses("12 act(" + act + ") without a duke", STATE, RefusalsTest::withoutDuke, x -> x.act(act));
            refuses("12 act(" + act + ") without a hall", STATE, LeftProfile::new, x -> x.act(act));
            answers("12 act(" + act + ")", 0, () -> dukeOn(OPEN, 12, 0), x -> x.act(act));
        }
    }

    /** A step out of the HALL on each PLACE beside its end, into WALL, into a COURTIER on each SIDE. */
    private static void actThatCannotBe() {
        for (int n = 0; n < 80; n++) {
            int place = n / 4, side = n % 4;
            int row = place / 5 + new int[] {-1, 0, 1, 0}[side], column = place % 5 + new int[] {0, 1, 0, -1}[side];
            if (row < 0 || row > 3 || column < 0 || column > 4) {
                refuses("12 a step out of the hall", STATE, () -> dukeOn(OPEN, place, side), x -> x.act(2));
                continue;
            }
            int ahead = 5 * row + column;
            answers("12 a step on", 0, () -> dukeOn(OPEN, place, side), x -> x.act(2));
            refuses("12 a step into a wall", STATE, () -> dukeOn(Due.wallOn(ahead), place, side), x -> x.act(2));
            for (int k = 0; k <= 4; k++) {
                int kind = k;
                refuses("12 a step into a courtier", STATE, () -> {
                    LeftProfile x = dukeOn(OPEN, place, side);
                    x.courtier(kind, ahead);
                    return x;
                }, x -> x.act(2));
            }
        }
    }

    private static void room() {
        for (int many : beyond(1, 3)) {
            for (int i : new int[] {-1, 0, 2, 3}) {
                String call = "14 room(" + many + ", " + i + ")";
                refuses(call, OUTSIDE, () -> busy(3), x -> x.room(many, i));
                refuses(call + " without a duke", OUTSIDE, RefusalsTest::withoutDuke, x -> x.room(many, i));
            }
        }
        for (int i : beyond(0, 2)) {
            for (int many : new int[] {0, 1, 3, 4}) {
                String call = "14 room(" + many + ", " + i + ")";
                refuses(call, OUTSIDE, () -> busy(3), x -> x.room(many, i));
                refuses(call + " without a hall", OUTSIDE, LeftProfile::new, x -> x.room(many, i));
            }
        }
        for (int n = 0; n < 9; n++) {
            int many = n / 3 + 1, i = n % 3;
            refuses("14 room(" + many + ", " + i + ") without a duke", STATE, RefusalsTest::withoutDuke, x -> x.room(many, i));
            refuses("14 room(" + many + ", " + i + ") without a hall", STATE, LeftProfile::new, x -> x.room(many, i));
            int due = i < many ? i : NONE;
            answers("14 room(" + many + ", " + i + ")", due, () -> dukeOn(OPEN, 19, 1), x -> x.room(many, i));
        }
    }

    private static void brick() {
        for (int what : beyond(0, 1)) {
            refuses("15 brick(" + what + ")", OUTSIDE, () -> busy(3), x -> x.brick(what));
            refuses("15 brick(" + what + ") without a duke", OUTSIDE, RefusalsTest::withoutDuke, x -> x.brick(what));
            refuses("15 brick(" + what + ") without a hall", OUTSIDE, LeftProfile::new, x -> x.brick(what));
            refuses("15 brick(" + what + ") without empty floor", OUTSIDE, () -> dukeOn(Due.floorOn(0), 0, 0), x -> x.brick(what));
        }
        for (int n = 0; n <= 1; n++) {
            int what = n;
            refuses("15 brick(" + what + ") without a duke", STATE, RefusalsTest::withoutDuke, x -> x.brick(what));
            refuses("15 brick(" + what + ") without a hall", STATE, LeftProfile::new, x -> x.brick(what));
            refuses("15 brick(" + what + ") without empty floor", NONE, () -> dukeOn(Due.floorOn(0), 0, 0), x -> x.brick(what));
            answers("15 brick(" + what + ")", 0, () -> dukeOn(OPEN, 19, 1), x -> x.brick(what));
        }
    }

    private static void way() {
        for (int place : beyond(0, 19)) {
            for (int what : new int[] {-1, 0, 1, 2}) {
                String call = "16 way(" + place + ", " + what + ")";
                refuses(call, UNKNOWN, () -> busy(3), x -> x.way(place, what));
                refuses(call + " without a duke", UNKNOWN, RefusalsTest::withoutDuke, x -> x.way(place, what));
                refuses(call + " without a hall", UNKNOWN, LeftProfile::new, x -> x.way(place, what));
            }
        }
        for (int what : beyond(0, 1)) {
            for (int place : new int[] {0, EMPTY, WALL, DUKE, 19}) {
                String call = "16 way(" + place + ", " + what + ")";
                refuses(call, OUTSIDE, () -> busy(3), x -> x.way(place, what));
                refuses(call + " without a duke", OUTSIDE, RefusalsTest::withoutDuke, x -> x.way(place, what));
                refuses(call + " without a hall", OUTSIDE, LeftProfile::new, x -> x.way(place, what));
            }
        }
        for (int n = 0; n < 40; n++) {
            int place = n / 2, what = n % 2;
            String call = "16 way(" + place + ", " + what + ")";
            refuses(call + " without a duke", STATE, RefusalsTest::withoutDuke, x -> x.way(place, what));
            refuses(call + " without a hall", STATE, LeftProfile::new, x -> x.way(place, what));
        }
        answers("16 way(0, 0)", 5, () -> dukeOn(OPEN, 12, 0), x -> x.way(0, 0));
        answers("16 way(19, 1)", 1, () -> dukeOn(OPEN, 12, 0), x -> x.way(19, 1));
    }

    private static void told() {
        for (int what : new int[] {-2, -1, 0, 4, 5}) {
            refusesNobody("17 told(.., " + what + ")", (x, nobody) -> x.told(nobody, what));
        }
        for (int what : beyond(NONE, 4)) {
            refuses("17 told(0, " + what + ")", OUTSIDE, () -> busy(1), x -> x.told(0, what));
            refuses("17 told(5, " + what + ")", OUTSIDE, () -> busy(6), x -> x.told(5, what));
        }
        for (int n = NONE; n <= 4; n++) {
            int what = n;
            answers("17 told(0, " + what + ")", 2, () -> busy(1), x -> x.told(0, what));
            answers("17 told(4, " + what + ")", 4, () -> busy(6), x -> x.told(4, what));
        }
    }

    private static void stood() {
        for (int what : beyond(0, 2)) {
            refuses("18 stood(" + what + ")", OUTSIDE, () -> busy(3), x -> x.stood(what));
            refuses("18 stood(" + what + ") without a hall", OUTSIDE, LeftProfile::new, x -> x.stood(what));
        }
        for (int n = 0; n <= 2; n++) {
            int what = n;
            refuses("18 stood(" + what + ") without a hall", STATE, () -> written(OPEN), x -> x.stood(what));
            answers("18 stood(" + what + ")", what == 0 ? 80 : NONE, () -> Due.in(OPEN), x -> x.stood(what));
        }
    }

    private static void walk() {
        for (int times : beyond(1, 60)) {
            for (int[] with : new int[][] {{0, 0}, {-1, 0}, {0, 4}, {-1, -1}}) {
                refusesWalk(OUTSIDE, times, with[0], with[1]);
            }
        }
        for (int seed : new int[] {-1, -2, Integer.MIN_VALUE, Integer.MIN_VALUE + 1, NONE, STATE}) {
            refusesWalk(OUTSIDE, 1, seed, 0);
            refusesWalk(OUTSIDE, 60, seed, 3);
            refusesWalk(OUTSIDE, 60, seed, 4);
        }
        for (int what : beyond(0, 3)) {
            refusesWalk(OUTSIDE, 1, 0, what);
            refusesWalk(OUTSIDE, 60, Integer.MAX_VALUE, what);
        }
        for (int n = 0; n <= 3; n++) {
            int what = n;
            for (int times : new int[] {1, 60}) {
                for (int seed : new int[] {0, Integer.MAX_VALUE}) {
                    refuses("19 a walk without a duke", STATE, RefusalsTest::withoutDuke, x -> x.walk(times, seed, what));
                    refuses("19 a walk without a hall", STATE, LeftProfile::new, x -> x.walk(times, seed, what));
                    LeftProfile x = busy(3);
                    Due.holds("19 a walk at the bounds", x.walk(times, seed, what) >= 0);
                }
            }
        }
    }

    private static void refusesWalk(int due, int times, int seed, int what) {
        String call = "19 walk(" + times + ", " + seed + ", " + what + ")";
        refuses(call, due, () -> busy(3), x -> x.walk(times, seed, what));
        refuses(call + " without a duke", due, RefusalsTest::withoutDuke, x -> x.walk(times, seed, what));
        refuses(call + " without a hall", due, LeftProfile::new, x -> x.walk(times, seed, what));
    }

    private static void image() {
        refuses("20 no hall", STATE, LeftProfile::new, LeftProfile::image);
        refuses("20 a page is no hall", STATE, () -> written(OPEN), LeftProfile::image);
        answers("20 nobody is there", 0, () -> Due.in(Due.floorOn(NONE)), LeftProfile::image);
        answers("20 six are there", 6, () -> busy(6), LeftProfile::image);
    }

    private static void restore() {
        refuses("21 no hall", STATE, LeftProfile::new, LeftProfile::restore);
        refuses("21 none was kept", STATE, () -> dukeOn(OPEN, 12, 0), LeftProfile::restore);
        refuses("21 image() was refused", STATE, () -> {
            LeftProfile x = written(OPEN);
            x.image();
            x.hall();
            return x;
        }, LeftProfile::restore);
        for (String text : new String[] {PILLARS, OPEN, Due.floorOn(NONE)}) {
            refuses("21 another hall", STATE, () -> anotherHall(text), LeftProfile::restore);
        }
        answers("21 a hall that was none changes nothing", 3, () -> {
            LeftProfile x = busyWithPage(OPEN + ".");
            x.hall();
            return x;
        }, LeftProfile::restore);
        answers("21 an image of another hall", 1, () -> {
            LeftProfile x = anotherHall(OPEN);
            x.courtier(0, 0);
            x.image();
            return x;
        }, LeftProfile::restore);
    }

    private static LeftProfile anotherHall(String text) {
        LeftProfile x = busyWithPage(text);
        x.hall();
        return x;
    }

    private static void count() {
        for (int what : beyond(0, 8)) {
            refuses("22 count(" + what + ")", OUTSIDE, () -> busy(6), x -> x.count(what));
            refuses("22 count(" + what + ") without a hall", OUTSIDE, LeftProfile::new, x -> x.count(what));
        }
        answers("22 count(0)", 14, () -> busy(6), x -> x.count(0));
        answers("22 count(8)", 1, () -> busy(6), x -> x.count(8));
    }
}
