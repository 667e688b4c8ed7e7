import java.math.BigInteger;
import java.util.ArrayList;
import java.util.List;

/**
 * Each sentence of the document that names a boundary has a method here, with the sentence's words above it: what is
 * answered at the boundary and beside it. What is refused stands in RefusalsTest, who sees what in SightTest.
 */
public final class BoundariesTest {
    private static final int NONE = -1, UNKNOWN = -101, OUTSIDE = -102, STATE = -103, FULL = -104;
    private static final int HIGH = Integer.MAX_VALUE;
    private static final String OPEN = "...../...../...../.....";
    private static final String WALLS = "#####/#####/#####/#####";
    /** One way from 0 to 15 and no other. */
    private static final String SNAKE = "...../####./...../.####";

    public static void main(String[] args) {
        theHall();
        thePage();
        people();
        acts();
        room();
        brick();
        way();
        toldAndStood();
        walk();
        image();
        counts();
        digest();
        Due.end();
    }

    private static LeftProfile dukeIn(String hall, int place, int side) {
        LeftProfile x = Due.in(hall);
        Due.is("duke(" + place + ", " + side + ") in " + hall, x.duke(place, side), 4 * place + side);
        return x;
    }

    private static void come(LeftProfile x, int kind, int... places) {
        for (int place : places) {
            Due.holds("nobody comes to " + place, x.courtier(kind, place) >= 0);
        }
    }

    private static int set(int... places) {
        int set = 0;
        for (int place : places) {
            set |= 1 << place;
        }
        return set;
    }

    private static int repeated(LeftProfile x, int act, int times) {
        int last = NONE;
        for (int n = 0; n < times; n++) {
            last = x.act(act);
        }
        return last;
    }

    // ======== the hall

    private static void theHall() {
        noHall();
        eachLetterInEachPlace();
        behindThoseAheadOfIt();
        placesRowByRow();
        howManyAreFloor();
        anotherOneIsGone();
        thePageIsEmptyThen();
    }

    /** "No HALL." */
    private static void noHall() {
        LeftProfile x = new LeftProfile();
        int[] due = {0, 0, NONE, NONE, 0, 0, 0, 0, 0};
        for (int what = 0; what <= 8; what++) {
            Due.is("1 count(" + what + ")", x.count(what), due[what]);
        }
        Due.is("1 on(0)", x.on(0), STATE);
        Due.is("1 a new page", x.fault(), 0);
        Due.is("1 nobody is there", x.about(0, 0), UNKNOWN);
        Due.is("1 nobody is guilty", x.guilty(), 0);
        Due.is("1 nobody could stand there", x.courtier(0, 0), STATE);
        Due.is("1 nor the duke", x.duke(0, 0), STATE);
        Due.is("1 no image", x.restore(), STATE);
        Due.is("1 nothing was read", x.hall(), STATE);
    }

    /** "four rows with '/' between, each of five letters", "the first letter that no HALL has there". */
    private static void eachLetterInEachPlace() {
        for (int at = 0; at <= 23; at++) {
            for (int code = 32; code <= 126; code++) {
                LeftProfile x = new LeftProfile();
                Due.write(x, (OPEN + OPEN).substring(0, at));
                x.letter(code);
                boolean between = at == 5 || at == 11 || at == 17;
                boolean fits = at < 23 && (between ? code == '/' : code == '.' || code == '#');
                Due.is("4 fault() with " + (char) code + " at " + at, x.fault(), fits ? at + 1 : at);
                Due.is("5 hall() with " + (char) code + " at " + at, x.hall(),
                        at == 22 && fits ? (code == '.' ? 20 : 19) : STATE);
            }
        }
    }

    /** "behind those ahead of it; how many letters it has, if there is none". */
    private static void behindThoseAheadOfIt() {
        for (int first = 0; first < 23; first++) {
            for (int second = first + 1; second < 23; second++) {
                StringBuilder page = new StringBuilder(WALLS);
                page.setCharAt(first, '-');
                page.setCharAt(second, '-');
                LeftProfile x = new LeftProfile();
                Due.write(x, page.toString());
                Due.is("4 of two faults the first", x.fault(), first);
            }
        }
        for (int many = 0; many <= 23; many++) {
            LeftProfile x = new LeftProfile();
            Due.write(x, SNAKE.substring(0, many));
            Due.is("4 no fault in " + many, x.fault(), many);
            Due.is("4 fault() changes nothing", x.count(7), many);
        }
    }

    /** "PLACES are 0 to 19, row by row (0 to 4 the first one, from the left)". */
    private static void placesRowByRow() {
        for (int floor = 0; floor < 20; floor++) {
            LeftProfile x = Due.in(Due.floorOn(floor));
            for (int place = 0; place < 20; place++) {
                Due.is("6 on(" + place + ") with floor on " + floor, x.on(place), place == floor ? NONE : -2);
            }
        }
    }

    /** "how many PLACES are FLOOR". */
    private static void howManyAreFloor() {
        for (int many = 0; many <= 20; many++) {
            LeftProfile x = new LeftProfile();
            Due.write(x, Due.floors((1 << many) - 1));
            Due.is("5 hall() with floor on " + many, x.hall(), many);
            Due.is("22 floor", x.count(0), many);
        }
    }

    /** "another one is gone, with the DUKE, COURTIERS, what is TOLD". */
    private static void anotherOneIsGone() {
        LeftProfile x = dukeIn(OPEN, 12, 1);
        come(x, 0, 0, 13, 14, 17, 18, 19);
        for (int n = 0; n < 6; n++) {
            x.told(n, 4);
        }
        x.act(0);
        x.image();
        Due.write(x, OPEN);
        Due.is("5 another", x.hall(), 20);
        Due.is("5 the duke is gone", x.count(2), NONE);
        Due.is("5 courtiers are gone", x.count(1), 0);
        Due.is("5 the first is gone", x.about(0, 0), UNKNOWN);
        Due.is("5 nothing is told", x.count(5), 0);
        Due.is("5 nobody is guilty", x.guilty(), 0);
        Due.is("5 no act without a duke", x.act(0), STATE);
        Due.is("5 it is told of nobody where he stood", x.stood(0), 80);
        for (int place = 0; place < 20; place++) {
            Due.is("5 nobody is on " + place, x.on(place), NONE);
        }
        for (int n = 0; n < 6; n++) {
            Due.is("5 six come anew", x.courtier(0, n), n);
            Due.is("5 he saw nothing", x.about(n, 4) + x.about(n, 5), 0);
            Due.is("5 nothing was told of him", x.told(n, NONE), NONE);
        }
    }

    /** "THE PAGE is empty then". */
    private static void thePageIsEmptyThen() {
        LeftProfile x = Due.in(WALLS);
        Due.is("5 the page is empty", x.count(7), 0);
        Due.is("5 blank() of it", x.blank(), 0);
        Due.is("5 fault() of it", x.fault(), 0);
        Due.is("5 it is no hall now", x.hall(), STATE);
        Due.is("5 a letter is the first one", x.letter('.'), 1);
        Due.is("5 the hall stands", x.on(0), -2);
    }

    // ======== the page

    private static void thePage() {
        howManyThePageHas();
        blankOfSoMany();
    }

    /** "how many THE PAGE has", "FULL: above 24". */
    private static void howManyThePageHas() {
        LeftProfile x = new LeftProfile();
        for (int n = 1; n <= 24; n++) {
            Due.is("2 letter " + n, x.letter(126), n);
            Due.is("22 letters", x.count(7), n);
        }
        Due.is("2 letter 25", x.letter(126), FULL);
        Due.is("22 letters", x.count(7), 24);
        Due.is("3 blank() of a full one", x.blank(), 24);
        Due.is("2 the first again", x.letter(32), 1);
    }

    /** "THE PAGE is empty: how many letters it had". */
    private static void blankOfSoMany() {
        for (int many = 0; many <= 24; many++) {
            LeftProfile x = Due.in(OPEN);
            Due.write(x, (OPEN + OPEN).substring(0, many));
            Due.is("3 blank() of " + many, x.blank(), many);
            Due.is("3 blank() of none", x.blank(), 0);
            Due.is("3 letters", x.count(7), 0);
            Due.is("3 the hall stands", x.count(0), 20);
        }
    }

    // ======== people

    private static void people() {
        sixAtMost();
        nobodyWhereSomebodyIs();
        heIsGoneFromWhereHeWas();
        aboutWithoutDuke();
        rowsEndAtTheWall();
        guiltyAsBits();
    }

    /** "COURTIERS (6 at most, numbered)". */
    private static void sixAtMost() {
        LeftProfile x = Due.in(OPEN);
        for (int n = 0; n < 6; n++) {
            Due.is("8 " + n + " is not there yet", x.about(n, 0), UNKNOWN);
            Due.is("8 courtier " + n, x.courtier(n % 5, 19 - n), n);
            Due.is("22 courtiers", x.count(1), n + 1);
            Due.is("6 on(" + (19 - n) + ")", x.on(19 - n), n);
        }
        Due.is("8 the seventh", x.courtier(0, 0), FULL);
        Due.is("6 he did not come", x.on(0), NONE);
        Due.is("9 there is no seventh", x.about(6, 0), UNKNOWN);
        Due.is("22 courtiers", x.count(1), 6);
    }

    /** "Nobody stands where somebody else does", and each PLACE that was left is free. */
    private static void nobodyWhereSomebodyIs() {
        LeftProfile x = dukeIn(OPEN, 0, 0);
        come(x, 0, 19);
        Due.is("7 the duke on a courtier", x.duke(19, 0), STATE);
        Due.is("8 a courtier on the duke", x.courtier(0, 0), STATE);
        Due.is("8 a courtier on a courtier", x.courtier(0, 19), STATE);
        Due.is("11 a courtier to the duke", x.go(0, 0), STATE);
        Due.is("11 a courtier to himself", x.go(0, 19), STATE);
        Due.is("11 he goes", x.go(0, 18), 19);
        Due.is("7 the duke on the place he left", x.duke(19, 0), 76);
        Due.is("11 a courtier to the place the duke left", x.go(0, 0), 18);
        Due.is("8 a courtier where nobody is now", x.courtier(0, 18), 1);
    }

    /** "he is gone from where he was"; 4 times the PLACE, and the SIDE. */
    private static void heIsGoneFromWhereHeWas() {
        LeftProfile x = Due.in(OPEN);
        for (int stance = 0; stance < 80; stance++) {
            Due.is("7 duke()", x.duke(stance / 4, stance % 4), stance);
            Due.is("6 he is there", x.on(stance / 4), 9);
            Due.is("6 and not where he was", stance < 4 ? NONE : x.on(stance / 4 - 1), NONE);
            Due.is("22 his place", x.count(2), stance / 4);
            Due.is("22 his side", x.count(3), stance % 4);
        }
        Due.is("22 to stand elsewhere is no act", x.count(6), 0);
    }

    /** "what he SEES (0: there is no DUKE)", "All who are GUILTY, as bits (0: there is no DUKE)". */
    private static void aboutWithoutDuke() {
        for (int kind = 0; kind <= 4; kind++) {
            LeftProfile x = Due.in(OPEN);
            come(x, kind, 0, 1, 5, 6, 18, 19);
            for (int n = 0; n < 6; n++) {
                Due.is("9 SEES nobody", x.about(n, 2), 0);
                Due.is("9 GUILTY of nobody", x.about(n, 3), 0);
            }
            Due.is("13 no duke", x.guilty(), 0);
            Due.is("22 no duke", x.count(4), 0);
            Due.is("22 his place", x.count(2), NONE);
            Due.is("22 his side", x.count(3), NONE);
        }
        Due.is("13 no hall", new LeftProfile().guilty(), 0);
    }

    /** A WAY ends where the HALL does: the next row's first PLACE is not the one behind this row's last. */
    private static void rowsEndAtTheWall() {
        for (int end = 4; end < 19; end += 5) {
            LeftProfile x = dukeIn(OPEN, end, 1);
            come(x, 3, end + 1);
            Due.is("9 the next row's first", x.about(0, 2), 0);
            Due.is("12 no step into the next row", x.act(2), STATE);
            x = dukeIn(OPEN, end + 1, 3);
            come(x, 3, end);
            Due.is("9 the last row's last", x.about(0, 2), 0);
            Due.is("12 no step into the last row", x.act(2), STATE);
        }
    }

    /** "as bits": from none to all six. */
    private static void guiltyAsBits() {
        LeftProfile x = dukeIn(OPEN, 10, 1);
        int[] places = {11, 12, 13, 14, 15, 16};
        for (int n = 0; n < 6; n++) {
            Due.is("13 " + n + " are guilty", x.guilty(), (1 << n) - 1);
            Due.is("22 " + n + " are guilty", x.count(4), n);
            come(x, 3, places[n]);
        }
        Due.is("13 six are guilty", x.guilty(), 63);
        Due.is("22 six are guilty", x.count(4), 6);
        x.act(0);
        Due.is("12 six are guilty behind an act", x.act(1), 6);
        x.go(0, 5);
        Due.is("13 the last five", x.guilty(), 62);
    }

    // ======== acts

    private static void acts() {
        turningRound();
        stepsToEachSide();
        itIsKeptHowOften();
        nobodyLooksOtherwise();
        manyActs();
    }

    /** "he turns to the left (from SIDE 0 to 3, and so on), 1 to the right". */
    private static void turningRound() {
        for (int side = 0; side < 4; side++) {
            LeftProfile x = dukeIn(OPEN, 12, side);
            x.act(0);
            Due.is("12 to the left of " + side, x.count(3), side == 0 ? 3 : side - 1);
            x.duke(12, side);
            x.act(1);
            Due.is("12 to the right of " + side, x.count(3), side == 3 ? 0 : side + 1);
            repeated(x, 1, 3);
            Due.is("12 all round by the right", x.count(3), side);
            repeated(x, 0, 4);
            Due.is("12 all round by the left", x.count(3), side);
            Due.is("12 he stands where he stood", x.count(2), 12);
            Due.is("22 acts", x.count(6), 9);
        }
        LeftProfile x = dukeIn(Due.floorOn(7), 7, 0);
        Due.is("12 he turns between walls, too", x.act(0), 0);
        Due.is("12 his side", x.count(3), 3);
    }

    /** "0 up (to the row ahead), 1 to the right, 2 down, 3 to the left". */
    private static void stepsToEachSide() {
        int[] ahead = {-5, 1, 5, -1};
        int[] steps = {2, 2, 1, 2};
        for (int side = 0; side < 4; side++) {
            LeftProfile x = dukeIn(OPEN, 12, side);
            for (int n = 1; n <= steps[side]; n++) {
                Due.is("12 a step", x.act(2), 0);
                Due.is("12 he is there", x.count(2), 12 + n * ahead[side]);
                Due.is("12 he looks there still", x.count(3), side);
            }
            Due.is("12 the hall ends", x.act(2), STATE);
            Due.is("22 acts", x.count(6), steps[side]);
        }
    }

    /** "it is kept how often he SAW the LEFT, the RIGHT (BOTH: each of them)". */
    private static void itIsKeptHowOften() {
        // He turns to the right from up: to 1, 2, 3, 0. One who stands ahead of SIDE 0 SEES 1, 4, 2, 3 then.
        int[][] left = {{1, 1, 1, 2}, {1, 1, 1, 1}, {1, 1, 1, 2}, {1, 1, 1, 2}, {1, 1, 1, 2}};
        int[][] right = {{0, 0, 1, 2}, {0, 0, 1, 1}, {0, 0, 1, 2}, {0, 0, 1, 2}, {0, 0, 1, 2}};
        for (int kind = 0; kind <= 4; kind++) {
            LeftProfile x = dukeIn(OPEN, 12, 0);
            come(x, kind, 7, 19);
            for (int n = 0; n < 4; n++) {
                x.act(1);
                Due.is("9 kind " + kind + " SAW the LEFT", x.about(0, 4), left[kind][n]);
                Due.is("9 kind " + kind + " SAW the RIGHT", x.about(0, 5), right[kind][n]);
                Due.is("9 who SEES nothing SAW nothing", x.about(1, 4) + x.about(1, 5), 0);
            }
        }
    }

    /** "Behind each act each COURTIER LOOKS", and behind nothing else. */
    private static void nobodyLooksOtherwise() {
        LeftProfile x = dukeIn(OPEN, 12, 0);
        come(x, 0, 2);
        x.duke(7, 0);
        x.duke(12, 0);
        x.go(0, 7);
        x.walk(60, 9, 2);
        x.way(0, 0);
        x.room(3, 0);
        x.brick(0);
        x.told(0, 3);
        x.stood(0);
        x.image();
        x.restore();
        Due.is("12 the step that can't be", x.act(2), STATE);
        Due.is("12 the act that is none", x.act(3), OUTSIDE);
        Due.is("9 he SEES both", x.about(0, 2), 3);
        Due.is("9 but nobody LOOKED", x.about(0, 4) + x.about(0, 5), 0);
        Due.is("22 and no act was done", x.count(6), 0);
    }

    /** "An object is used for at most 512 calls": the last of them is answered as the first. */
    private static void manyActs() {
        LeftProfile x = dukeIn(OPEN, 12, 0);
        come(x, 0, 7);
        // 26 calls so far; of four turns to the right one shows him the LEFT, one the BACK, one the RIGHT, one BOTH.
        Due.is("12 the 482nd act", repeated(x, 1, 482), 0);
        Due.is("22 acts", x.count(6), 482);
        Due.is("9 SAW the LEFT", x.about(0, 4), 241);
        Due.is("9 SAW the RIGHT", x.about(0, 5), 240);
        Due.is("12 the 512th call", x.act(1), 1);
    }

    // ======== room

    private static void room() {
        roomForExactlySoMany();
        noneSuchInIt();
        theFirstByNumbers();
        nobodyOfAllIsGuilty();
        roomIsOnEmptyFloor();
    }

    /** "ROOM for so many (1 to 3)": just as many PLACES, one fewer, one more. */
    private static void roomForExactlySoMany() {
        int[][] others = {{}, {1}, {19}, {1, 19}, {7, 9}, {4, 5, 19}, {1, 2, 3}, {3, 8, 13, 18}};
        for (int[] free : others) {
            // One on 0 who looks to the left shows nobody in the HALL the RIGHT.
            LeftProfile x = dukeIn(Due.floors(set(free) | 1), 0, 3);
            for (int many = 1; many <= 3; many++) {
                for (int i = 0; i < 3; i++) {
                    int due = many <= free.length && i < many ? free[i] : NONE;
                    Due.is("14 room(" + many + ", " + i + ") of " + free.length, x.room(many, i), due);
                }
            }
        }
    }

    /** "NONE: there is none, or none such in it". */
    private static void noneSuchInIt() {
        LeftProfile x = dukeIn(OPEN, 19, 1);
        Due.is("14 the first of one", x.room(1, 0), 0);
        Due.is("14 the second of one", x.room(1, 1), NONE);
        Due.is("14 the third of one", x.room(1, 2), NONE);
        Due.is("14 the second of two", x.room(2, 1), 1);
        Due.is("14 the third of two", x.room(2, 2), NONE);
        Due.is("14 the third of three", x.room(3, 2), 2);
        x = dukeIn(Due.floors(set(0, 1, 5, 6)), 0, 1);
        Due.is("14 all three would be guilty", x.room(1, 0), NONE);
        x = dukeIn(Due.floors(set(0, 1, 5, 6, 7)), 0, 1);
        Due.is("14 but one in no way of him", x.room(1, 0), 7);
        Due.is("14 two could not", x.room(2, 0), NONE);
        Due.is("14 two could not", x.room(2, 1), NONE);
    }

    /** "of all sets the first by numbers (the least PLACE, then the second one, ..)". */
    private static void theFirstByNumbers() {
        // From 7 one who looks down has his right hand to the left: 5, 6, 1, 11 and 15 SEE it, 12 and 17 BOTH.
        LeftProfile x = dukeIn(OPEN, 7, 2);
        int[] due = {0, 2, 3};
        for (int i = 0; i < 3; i++) {
            Due.is("14 the first by numbers", x.room(3, i), due[i]);
        }
        come(x, 4, 0, 3);
        int[] then = {2, 4, 8};
        for (int i = 0; i < 3; i++) {
            Due.is("14 the first of those left", x.room(3, i), then[i]);
        }
    }

    /** "so that nobody of all is GUILTY then": those who stand there, too. */
    private static void nobodyOfAllIsGuilty() {
        LeftProfile x = dukeIn(OPEN, 12, 0);
        come(x, 0, 13);
        Due.is("14 one is guilty already", x.room(1, 0), NONE);
        x.go(0, 11);
        Due.is("14 he sees the left", x.room(1, 0), 0);
        x.go(0, 17);
        Due.is("14 he sees the back", x.room(1, 0), 0);
        x = dukeIn(OPEN, 12, 0);
        come(x, 4, 13);
        Due.is("14 a buyer may see", x.room(1, 0), 0);
        x = dukeIn(OPEN, 12, 0);
        come(x, 1, 7);
        Due.is("14 a minister bows", x.room(1, 0), 0);
        Due.is("14 behind a minister one may stand", x.room(3, 2), 2);
        x.go(0, 2);
        Due.is("14 ahead of him not", x.room(3, 2), 3);
    }

    /** "PLACES where they could stand": no WALL, nobody there. */
    private static void roomIsOnEmptyFloor() {
        LeftProfile x = dukeIn(Due.floors(set(0, 1, 2, 3)), 0, 3);
        come(x, 0, 1, 3);
        Due.is("14 the floor between", x.room(1, 0), 2);
        Due.is("14 no floor for two", x.room(2, 0), NONE);
        come(x, 0, 2);
        Due.is("14 no floor at all", x.room(1, 0), NONE);
        x = dukeIn(Due.floorOn(0), 0, 3);
        Due.is("14 the duke's own is none", x.room(1, 0), NONE);
    }

    // ======== brick

    private static void brick() {
        noEmptyFloor();
        fewestAreGuilty();
        ofLikeOnesTheLeast();
    }

    /** "NONE: there is no empty FLOOR"; where there is one, it is the one. */
    private static void noEmptyFloor() {
        LeftProfile x = dukeIn(Due.floors(set(18, 19)), 19, 3);
        Due.is("15 the one empty floor", x.brick(0), 18);
        Due.is("15 nobody is guilty", x.brick(1), 0);
        come(x, 0, 18);
        Due.is("15 no empty floor", x.brick(0), NONE);
        Due.is("15 nor how many are guilty", x.brick(1), NONE);
        Due.is("15 though one is", x.guilty(), 1);
        x = dukeIn(Due.floors(set(0, 18, 19)), 19, 3);
        come(x, 0, 18);
        Due.is("15 the one empty floor, if of no use", x.brick(0), 0);
        Due.is("15 one is guilty still", x.brick(1), 1);
    }

    /** "the empty FLOOR that would have to be WALL so that fewest are GUILTY". */
    private static void fewestAreGuilty() {
        LeftProfile x = dukeIn(OPEN, 10, 1);
        // 13 and 14 SEE both cheeks over 11 and 12, one on 15 stands next, one on 2 sees the LEFT.
        come(x, 3, 13, 14, 15, 2);
        Due.is("15 three are guilty", x.guilty(), 0b111);
        Due.is("15 the brick", x.brick(0), 11);
        Due.is("15 one is left", x.brick(1), 1);
        x.go(1, 16);
        Due.is("15 one of three", x.brick(0), 11);
        Due.is("15 two are left", x.brick(1), 2);
        Due.is("15 nothing is built", x.guilty(), 0b111);
        x = dukeIn(OPEN, 14, 3);
        come(x, 0, 10);
        Due.is("15 between, not beyond", x.brick(0), 11);
        Due.is("15 nobody is left", x.brick(1), 0);
        x = dukeIn(OPEN, 0, 1);
        come(x, 0, 18, 4);
        Due.is("15 either of two", x.brick(0), 1);
        Due.is("15 the other is left", x.brick(1), 1);
        x = dukeIn(OPEN, 15, 3);
        come(x, 0, 5);
        come(x, 0, 18);
        Due.is("15 who sees the back is none", x.brick(0), 10);
        x = dukeIn(OPEN, 10, 1);
        come(x, 3, 11, 12, 13, 14, 15, 16);
        Due.is("15 of six who stand next or behind those nobody is helped: the least", x.brick(0), 0);
        Due.is("15 all six are left", x.brick(1), 6);
        x.go(3, 0);
        Due.is("15 five are left", x.brick(1), 5);
    }

    /** "of like ones the least". */
    private static void ofLikeOnesTheLeast() {
        LeftProfile x = dukeIn(OPEN, 0, 3);
        Due.is("15 his own place is none", x.brick(0), 1);
        come(x, 0, 1, 2);
        Due.is("15 nor those of others", x.brick(0), 3);
        x = dukeIn(OPEN, 19, 0);
        Due.is("15 the first place", x.brick(0), 0);
        x = dukeIn(Due.wallOn(0), 19, 0);
        Due.is("15 a wall is none", x.brick(0), 1);
        x = dukeIn(OPEN, 9, 3);
        come(x, 3, 5);
        Due.is("15 the least of three between", x.brick(0), 6);
        x.go(0, 6);
        come(x, 0, 5);
        Due.is("15 the least of two between", x.brick(0), 7);
    }

    // ======== way

    private static void way() {
        heStandsThere();
        noWay();
        theFewestActs();
        behindAnyOfThem();
        theLeastFirst();
    }

    /** "(0: he stands there)", "1 the first (NONE: he stands there)". */
    private static void heStandsThere() {
        for (int stance = 0; stance < 80; stance++) {
            LeftProfile x = dukeIn(OPEN, stance / 4, stance % 4);
            Due.is("16 how many acts", x.way(stance / 4, 0), 0);
            Due.is("16 no first", x.way(stance / 4, 1), NONE);
        }
        LeftProfile x = dukeIn(OPEN, 12, 0);
        come(x, 0, 7);
        Due.is("16 somebody is guilty", x.guilty(), 1);
        Due.is("16 he stands there all the same", x.way(12, 0), 0);
        Due.is("16 no first", x.way(12, 1), NONE);
    }

    /** "NONE: there is none". */
    private static void noWay() {
        LeftProfile x = dukeIn(Due.floors(set(0, 2, 5, 19)), 0, 1);
        come(x, 4, 5);
        for (int place = 1; place < 20; place++) {
            Due.is("16 how many acts to " + place, x.way(place, 0), NONE);
            Due.is("16 the first to " + place, x.way(place, 1), NONE);
        }
        x.go(0, 19);
        Due.is("16 where he was", x.way(5, 0), 2);
        Due.is("16 where he is", x.way(19, 0), NONE);
    }

    /** "the fewest ACTS by which he stands there (looking anywhere)". */
    private static void theFewestActs() {
        LeftProfile x = dukeIn(SNAKE, 0, 1);
        int[] lengths = {0, 1, 2, 3, 4, NONE, NONE, NONE, NONE, 6, 12, 11, 10, 9, 7, 14, NONE, NONE, NONE, NONE};
        for (int place = 0; place < 20; place++) {
            Due.is("16 to " + place, x.way(place, 0), lengths[place]);
            Due.is("16 first to " + place, x.way(place, 1), lengths[place] > 0 ? 2 : NONE);
        }
        int[] more = {1, 0, 1, 2};
        for (int side = 0; side < 4; side++) {
            x.duke(0, side);
            Due.is("16 to the end from side " + side, x.way(15, 0), 14 + more[side]);
        }
        x = dukeIn(OPEN, 0, 3);
        Due.is("16 to the last corner", x.way(19, 0), 9);
        Due.is("16 down first: one turn", x.way(19, 1), 0);
    }

    /** "so that nobody is GUILTY behind any of them". */
    private static void behindAnyOfThem() {
        LeftProfile x = dukeIn(Due.floors(set(0, 1, 2, 3, 4)), 0, 1);
        come(x, 0, 4);
        Due.is("16 guilty behind the step", x.way(1, 0), NONE);
        x = dukeIn(Due.floors(set(0, 1, 6)), 0, 1);
        come(x, 0, 6);
        Due.is("16 guilty at the start and at the end", x.way(1, 0), NONE);
        x = dukeIn(Due.floors(set(0, 1, 2, 7, 12)), 0, 1);
        come(x, 0, 12);
        // On 1 nobody has him in sight; on 2 he who stands on 12 sees the RIGHT of one who looks to the right.
        Due.is("16 guilty now, but not behind the step", x.way(1, 0), 1);
        Due.is("16 guilty behind the last", x.way(2, 0), NONE);
        x = dukeIn(Due.floors(set(0, 1, 2, 7, 12)), 0, 1);
        come(x, 4, 12);
        Due.is("16 a buyer is none", x.way(2, 0), 2);
        x = dukeIn(Due.floors(set(0, 1, 2, 7)), 2, 3);
        come(x, 0, 7);
        Due.is("16 who sees the left is none", x.way(0, 0), 2);
    }

    /** "what to do first: of all such the least". */
    private static void theLeastFirst() {
        LeftProfile x = dukeIn(OPEN, 12, 0);
        Due.is("16 round by either hand", x.way(17, 0), 3);
        Due.is("16 by the left", x.way(17, 1), 0);
        come(x, 0, 2);
        // Turned to the left he shows him the RIGHT, turned to the right the LEFT.
        Due.is("16 round by the right alone", x.way(17, 0), 3);
        Due.is("16 by the right", x.way(17, 1), 1);
        x = dukeIn(Due.floors(set(6, 7, 11, 12)), 12, 0);
        Due.is("16 on and round", x.way(6, 0), 3);
        Due.is("16 the step", x.way(6, 1), 2);
        x = dukeIn(Due.floors(set(6, 11, 12)), 12, 0);
        Due.is("16 round and on", x.way(6, 0), 4);
        Due.is("16 the turn", x.way(6, 1), 0);
        x = dukeIn(OPEN, 12, 3);
        Due.is("16 a step and a turn, or a turn and a step and a turn", x.way(6, 0), 3);
        Due.is("16 the step", x.way(6, 1), 2);
        x = dukeIn(OPEN, 12, 2);
        // Left, on, left, on are fewer than right, right, on, right, on; and the other way round for the other.
        Due.is("16 behind to the right of the hall", x.way(8, 0), 4);
        Due.is("16 by the left", x.way(8, 1), 0);
        Due.is("16 behind to the left of the hall", x.way(6, 0), 4);
        Due.is("16 by the right", x.way(6, 1), 1);
    }

    // ======== told and stood

    private static void toldAndStood() {
        whatWasToldSoFar();
        pairsOfPlaceAndSide();
        ofOthersNothing();
        sureInAllOfThem();
        eachThatCanBeTold();
    }

    /** "what was TOLD of him so far (NONE)", "NONE: nothing is TOLD of him any more". */
    private static void whatWasToldSoFar() {
        LeftProfile x = Due.in(OPEN);
        come(x, 0, 0, 1, 2, 3, 4, 5);
        for (int n = 0; n < 6; n++) {
            int before = NONE;
            for (int what : new int[] {0, 4, 1, 3, 2, NONE, NONE, 0}) {
                Due.is("17 told(" + n + ", " + what + ")", x.told(n, what), before);
                Due.is("22 of whom something is told", x.count(5), what == NONE ? n : n + 1);
                before = what;
            }
        }
        Due.is("22 of all six", x.count(5), 6);
        Due.is("17 nothing any more", x.told(3, NONE), 0);
        Due.is("22 of five", x.count(5), 5);
    }

    /** "a PLACE of the DUKE (FLOOR, no COURTIER there) and a SIDE". */
    private static void pairsOfPlaceAndSide() {
        for (int many = 0; many <= 20; many++) {
            LeftProfile x = Due.in(Due.floors((1 << many) - 1));
            Due.is("18 pairs", x.stood(0), 4 * many);
            for (int n = 0; n < 6 && n < many; n++) {
                come(x, 0, n);
                Due.is("18 pairs with " + (n + 1), x.stood(0), 4 * (many - n - 1));
            }
        }
        LeftProfile x = dukeIn(Due.floors(set(7, 9)), 9, 2);
        Due.is("18 where he is now is nothing", x.stood(0), 8);
        come(x, 0, 7);
        Due.is("18 it may be where he is", x.stood(1), 9);
    }

    /** "of others nothing": who says nothing bars nothing but his PLACE and the sight. */
    private static void ofOthersNothing() {
        LeftProfile x = Due.in(Due.floors(set(5, 6, 7, 8, 9)));
        come(x, 0, 5, 7);
        x.told(0, 1);
        Due.is("18 from 6 alone, as 7 stands between", x.stood(0), 1);
        Due.is("18 it is sure", x.stood(1), 6);
        Due.is("18 he looked up: 5 is to his left", x.stood(2), 0);
        x.told(0, 0);
        Due.is("18 from 8 and 9 he has him not in sight", x.stood(0), 8);
        x.told(0, NONE);
        Due.is("18 nothing is told", x.stood(0), 12);
    }

    /** "SURE: the PLACE in all of them, the SIDE in all", "NONE: it is not, or there are none". */
    private static void sureInAllOfThem() {
        for (int place = 0; place < 20; place++) {
            LeftProfile x = Due.in(Due.floorOn(place));
            Due.is("18 the one place", x.stood(1), place);
            Due.is("18 of four sides none", x.stood(2), NONE);
        }
        int[][] ends = {{0, 1, 1}, {19, 14, 0}, {4, 3, 3}, {15, 10, 0}, {0, 5, 2}, {19, 18, 3}};
        for (int[] end : ends) {
            LeftProfile x = Due.in(Due.floors(set(end[0], end[1])));
            come(x, 0, end[1]);
            x.told(0, 3);
            Due.is("18 the one pair", x.stood(0), 1);
            Due.is("18 its place", x.stood(1), end[0]);
            Due.is("18 its side", x.stood(2), end[2]);
        }
        LeftProfile x = Due.in(Due.floors(set(0, 1, 2)));
        come(x, 0, 2);
        x.told(0, 4);
        Due.is("18 two places, one side", x.stood(0), 2);
        Due.is("18 not the place", x.stood(1), NONE);
        Due.is("18 the side", x.stood(2), 3);
        x = Due.in(WALLS);
        Due.is("18 there are none", x.stood(0), 0);
        Due.is("18 no place", x.stood(1), NONE);
        Due.is("18 no side", x.stood(2), NONE);
        x = Due.in(Due.floors(set(0, 1)));
        come(x, 1, 1);
        x.told(0, 3);
        Due.is("18 a minister can't have seen both", x.stood(0), 0);
        Due.is("18 no place", x.stood(1), NONE);
        Due.is("18 no side", x.stood(2), NONE);
    }

    /** "what they say that they SAW (0 to 4)". */
    private static void eachThatCanBeTold() {
        // 7 PLACES are straight in a row or column of 7, 6 aslant, 6 in no WAY; aslant two SIDES show each cheek.
        int[] due = {6 * 4, 7 + 6 * 2, 7 + 6 * 2, 7, 7};
        LeftProfile x = Due.in(OPEN);
        come(x, 0, 7);
        for (int what = 0; what <= 4; what++) {
            x.told(0, what);
            Due.is("18 where one on 7 SEES " + what, x.stood(0), due[what]);
        }
        x = Due.in(OPEN);
        come(x, 2, 7);
        // 17 is straight below and two away, 15 and 19 are aslant and two away: in a SHORT one's reach, all of them.
        for (int what = 0; what <= 4; what++) {
            x.told(0, what);
            Due.is("18 where a short one on 7 SEES " + what, x.stood(0), due[what]);
        }
        // From 5 on the row's 8 and 9 are too far for him, in the column none but 0, 10, 15 are there, aslant 1, 11, 17.
        x.go(0, 5);
        int[] then = {(19 - 8) * 4, 5 + 3 * 2, 5 + 3 * 2, 5, 5};
        for (int what = 0; what <= 4; what++) {
            x.told(0, what);
            Due.is("18 where a short one on 5 SEES " + what, x.stood(0), then[what]);
        }
    }

    // ======== walk

    private static void walk() {
        seedsRestByTwoToThe31();
        aStepThatCannotBe();
        eachCounts();
        fromOneToSixtyTimes();
    }

    private static BigInteger next(BigInteger seed) {
        return BigInteger.valueOf(1103515245).multiply(seed).add(BigInteger.valueOf(12345)).mod(BigInteger.TWO.pow(31));
    }

    /** "1103515245 times it and 12345, its rest by 2 to the 31". */
    private static void seedsRestByTwoToThe31() {
        LeftProfile x = dukeIn(OPEN, 12, 0);
        for (int seed : new int[] {0, 1, 2, 12345, 65535, 65536, 1 << 30, HIGH - 1, HIGH}) {
            BigInteger due = BigInteger.valueOf(seed);
            for (int times = 1; times <= 10; times++) {
                due = next(due);
                Due.is("19 the seed behind " + times + " from " + seed, x.walk(times, seed, 3), due.longValueExact());
            }
        }
    }

    /** "a step that can't be is none, and nobody LOOKS"; the turns are by the DRAWS of 3. */
    private static void aStepThatCannotBe() {
        LeftProfile x = dukeIn(Due.floors(set(7, 8)), 7, 0);
        come(x, 0, 8);
        for (int first : new int[] {0, 5, 77, 4711, HIGH}) {
            BigInteger seed = BigInteger.valueOf(first);
            int side = 0;
            int guilty = 0;
            for (int times = 1; times <= 12; times++) {
                seed = next(seed);
                int act = seed.shiftRight(16).mod(BigInteger.valueOf(3)).intValue();
                side = act == 2 ? side : (side + (act == 0 ? 3 : 1)) % 4;
                // 8 is to the right of 7: at the right hand of one who looks up, ahead of one who looks to SIDE 1.
                guilty += act != 2 && side <= 1 ? 1 : 0;
                Due.is("19 he stays", x.walk(times, first, 0), 7);
                Due.is("19 he turns", x.walk(times, first, 1), side);
                Due.is("19 guilty behind acts alone", x.walk(times, first, 2), guilty);
            }
        }
        Due.is("19 nobody looks", x.about(0, 4) + x.about(0, 5), 0);
        Due.is("19 as it would be", x.count(6), 0);
    }

    /** "how often somebody was GUILTY behind ACTS (each counts)". */
    private static void eachCounts() {
        // The first DRAW from 0 is a turn to the left: from up to SIDE 3, with the right hand up.
        // 2, 0 and 4 stand behind 7, 6 and 8 in the same WAYS: TALL ones look over them.
        int[] above = {6, 7, 8, 2, 0, 4};
        for (int many = 0; many <= 6; many++) {
            LeftProfile tall = dukeIn(OPEN, 12, 0);
            LeftProfile low = dukeIn(OPEN, 12, 0);
            for (int n = 0; n < many; n++) {
                come(tall, 3, above[n]);
                come(low, 0, above[n]);
            }
            Due.is("19 of " + many, tall.walk(1, 0, 2), many);
            Due.is("19 of those ahead", low.walk(1, 0, 2), Math.min(many, 3));
            Due.is("12 as the act tells", tall.act(0) * 10 + low.act(0), many * 10 + Math.min(many, 3));
        }
    }

    /** "times (1 to 60)": the sixtieth ACT is done, too. */
    private static void fromOneToSixtyTimes() {
        LeftProfile walker = dukeIn(OPEN, 0, 1);
        come(walker, 0, 13);
        LeftProfile x = dukeIn(OPEN, 0, 1);
        come(x, 0, 13);
        BigInteger seed = BigInteger.valueOf(HIGH);
        for (int times = 1; times <= 60; times++) {
            seed = next(seed);
            x.act(seed.shiftRight(16).mod(BigInteger.valueOf(3)).intValue());
            Due.is("19 the place behind " + times, walker.walk(times, HIGH, 0), x.count(2));
            Due.is("19 the side behind " + times, walker.walk(times, HIGH, 1), x.count(3));
        }
        Due.is("19 the seed behind 60", walker.walk(60, HIGH, 3), seed.longValueExact());
        Due.is("19 not 61", walker.walk(61, HIGH, 0), OUTSIDE);
        Due.is("19 not 0", walker.walk(0, HIGH, 0), OUTSIDE);
    }

    // ======== image

    private static void image() {
        theLatestIsKept();
        whoCameSinceIsGone();
        whatAnImageKeeps();
        whatItKeepsNot();
        itMayBeRestoredAgain();
    }

    /** "An IMAGE is kept (one; the latest): how many COURTIERS". */
    private static void theLatestIsKept() {
        LeftProfile x = Due.in(OPEN);
        for (int n = 0; n <= 6; n++) {
            Due.is("20 image() of " + n, x.image(), n);
            Due.is("21 restore() of " + n, x.restore(), n);
            if (n < 6) {
                come(x, 0, n);
            }
        }
        x.go(5, 19);
        x.image();
        x.go(5, 18);
        x.restore();
        Due.is("21 the latest, not the one ahead of it", x.about(5, 1), 19);
    }

    /** "how many COURTIERS there are (those that come since are gone by restore())". */
    private static void whoCameSinceIsGone() {
        for (int then = 0; then <= 6; then++) {
            LeftProfile x = dukeIn(OPEN, 19, 0);
            for (int n = 0; n < then; n++) {
                come(x, 0, n);
            }
            x.image();
            for (int n = then; n < 6; n++) {
                come(x, 3, n);
                x.told(n, 2);
            }
            x.act(0);
            Due.is("21 restore()", x.restore(), then);
            Due.is("22 courtiers", x.count(1), then);
            Due.is("22 told", x.count(5), 0);
            Due.is("9 the last", x.about(then - 1, 0), then == 0 ? UNKNOWN : 0);
            Due.is("9 behind the last", x.about(then, 0), UNKNOWN);
            for (int n = then; n < 6; n++) {
                Due.is("6 his place is empty", x.on(n), NONE);
                Due.is("8 his number is free", x.courtier(2, n), n);
                Due.is("9 another kind", x.about(n, 0), 2);
                Due.is("17 nothing is told of him", x.told(n, NONE), NONE);
                Due.is("9 he saw nothing", x.about(n, 4) + x.about(n, 5), 0);
            }
        }
    }

    /** "the DUKE, .. where they are, what they SAW, what is TOLD, how many ACTS were done". */
    private static void whatAnImageKeeps() {
        LeftProfile x = dukeIn(OPEN, 12, 3);
        come(x, 0, 7, 17);
        x.act(1);
        x.told(0, 3);
        x.image();
        x.duke(0, 2);
        x.go(0, 19);
        x.go(1, 18);
        x.duke(13, 0);
        repeated(x, 0, 3);
        x.told(0, NONE);
        x.told(1, 0);
        x.restore();
        Due.is("21 his place", x.count(2), 12);
        Due.is("21 his side", x.count(3), 0);
        Due.is("21 he is gone from there", x.on(13), NONE);
        Due.is("21 where the first is", x.about(0, 1), 7);
        Due.is("21 where the second is", x.about(1, 1), 17);
        Due.is("21 what the first saw", x.about(0, 4) * 10 + x.about(0, 5), 11);
        Due.is("21 what the second saw", x.about(1, 4) * 10 + x.about(1, 5), 0);
        Due.is("21 acts", x.count(6), 1);
        Due.is("21 what is told of the first", x.told(0, 1), 3);
        Due.is("21 what is told of the second", x.told(1, 1), NONE);
        x = Due.in(OPEN);
        x.image();
        x.duke(12, 0);
        x.act(0);
        x.restore();
        Due.is("21 there was no duke", x.count(2), NONE);
        Due.is("21 no side", x.count(3), NONE);
        Due.is("21 no act", x.count(6), 0);
        Due.is("21 he can't act", x.act(0), STATE);
    }

    /** Nothing else is kept: not THE PAGE, not how often a HALL was read. */
    private static void whatItKeepsNot() {
        LeftProfile x = Due.in(OPEN);
        Due.write(x, ".#");
        x.image();
        x.letter('/');
        x.restore();
        Due.is("21 the page goes on", x.count(7), 3);
        Due.is("21 the hall was read once", x.count(8), 1);
        x.blank();
        x.restore();
        Due.is("21 the page is empty", x.count(7), 0);
    }

    /** It goes on from the IMAGE, which stays kept, and what happens since does not change it. */
    private static void itMayBeRestoredAgain() {
        LeftProfile x = dukeIn(OPEN, 12, 0);
        come(x, 0, 7);
        x.image();
        for (int again = 0; again < 3; again++) {
            Due.is("21 restore()", x.restore(), 1);
            Due.is("21 his side", x.count(3), 0);
            Due.is("21 where he is", x.about(0, 1), 7);
            Due.is("21 he saw nothing", x.about(0, 4), 0);
            Due.is("21 nothing is told", x.count(5), 0);
            x.act(1);
            x.told(0, 1);
            x.go(0, 2);
        }
    }

    // ======== count

    private static void counts() {
        LeftProfile x = new LeftProfile();
        for (int n = 1; n <= 20; n++) {
            Due.write(x, n % 2 == 0 ? OPEN : WALLS);
            Due.is("5 hall() " + n, x.hall(), n % 2 == 0 ? 20 : 0);
            Due.is("22 how often a hall was read", x.count(8), n);
            Due.is("22 floor of the latest", x.count(0), n % 2 == 0 ? 20 : 0);
        }
        x.letter('.');
        x.hall();
        Due.is("22 what is none was not read", x.count(8), 20);
    }

    // ======== digest

    private static void digest() {
        LeftProfile x = new LeftProfile();
        digestIsAsTold(x, 0);
        Due.write(x, "/~ ");
        digestIsAsTold(x, 0);
        Due.write(x, OPEN + ".");
        digestIsAsTold(x, 0);
        x = Due.in(WALLS);
        digestIsAsTold(x, 0);
        x = Due.in(OPEN);
        digestIsAsTold(x, 0);
        come(x, 3, 0, 4, 19);
        digestIsAsTold(x, 3);
        x.duke(12, 1);
        x.told(1, 4);
        digestIsAsTold(x, 3);
        come(x, 1, 6, 13);
        come(x, 4, 14);
        repeated(x, 1, 3);
        Due.write(x, "#####/");
        digestIsAsTold(x, 6);
        x = dukeIn(SNAKE, 0, 1);
        digestIsAsTold(x, 0);
        // 19 is further than 18; then there is ROOM for two but not for three, for one but not for two.
        x = dukeIn(Due.floors(set(0, 5, 10, 15, 16, 17, 18, 19)), 5, 2);
        digestIsAsTold(x, 0);
        x = dukeIn(Due.floors(set(0, 1, 2)), 0, 3);
        digestIsAsTold(x, 0);
        x = dukeIn(Due.floors(set(0, 1)), 0, 3);
        digestIsAsTold(x, 0);
    }

    /** "31 times h, and it (as longs, wrapping)", of numbers that the other calls tell, in their order. */
    private static void digestIsAsTold(LeftProfile x, int courtiers) {
        List<Integer> numbers = new ArrayList<>();
        boolean hall = x.count(8) > 0;
        for (int place = 0; hall && place <= 19; place++) {
            numbers.add(x.on(place));
        }
        for (int n = 0; n < courtiers; n++) {
            for (int what = 0; what <= 5; what++) {
                numbers.add(x.about(n, what));
            }
            int told = x.told(n, NONE);
            x.told(n, told);
            numbers.add(told);
        }
        if (x.count(2) != NONE) {
            numbers.addAll(List.of(x.room(2, 0), x.room(2, 1), x.brick(0), x.brick(1), x.way(0, 0), x.way(19, 0)));
        }
        if (hall) {
            numbers.addAll(List.of(x.stood(0), x.stood(1), x.stood(2)));
        }
        addPage(numbers, x);
        for (int what = 0; what <= 8; what++) {
            numbers.add(x.count(what));
        }
        BigInteger h = BigInteger.valueOf(719);
        for (int number : numbers) {
            h = h.multiply(BigInteger.valueOf(31)).add(BigInteger.valueOf(number));
        }
        Due.holds("23 it wraps in all but the least", h.bitLength() > 63 || numbers.size() <= 12);
        Due.is("23 digest() of " + numbers, x.digest(), h.longValue());
    }

    /** THE PAGE can't be asked letter by letter: it is known by how many letters it has here. */
    private static void addPage(List<Integer> numbers, LeftProfile x) {
        String[] pages = {"", "", "", "/~ ", "", "", "#####/"};
        int many = x.count(7);
        String page = many == 24 ? "/~ " + OPEN.substring(0, 21) : pages[many];
        page.chars().forEach(numbers::add);
    }
}
