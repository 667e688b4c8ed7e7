/** One method for each promise of the document: ordinary inputs, the edges it names, and wrong inputs. */
public final class PromisesTest {
    private static final int NONE = -1, UNKNOWN = -101, OUTSIDE = -102, STATE = -103, FULL = -104;
    private static final int LOW = Integer.MIN_VALUE, HIGH = Integer.MAX_VALUE;
    private static final String OPEN = "...../...../...../.....";
    private static final String PILLARS = ".#.#./.#.#./...../#...#";
    private static final String WALLS = "#####/#####/#####/#####";

    public static void main(String[] args) {
        newObject();
        letter();
        blank();
        fault();
        hall();
        on();
        duke();
        courtier();
        about();
        seesByWay();
        seesOverAndBetween();
        as();
        go();
        act();
        guilty();
        room();
        brick();
        way();
        told();
        stood();
        walk();
        image();
        restore();
        count();
        digest();
        Due.everyPromiseWasTested();
        Due.end();
    }

    /** A refused call changes nothing, as far as the digest and the answer to every question tell. */
    private static void refused(String call, LeftProfile x, long digestBefore, int got, int want) {
        Due.is(call, got, want);
        Due.is(call + " and digest()", x.digest(), digestBefore);
    }

    private static void newObject() {
        LeftProfile x = new LeftProfile();
        Due.is("1 on(0)", x.on(0), STATE);
        Due.is("1 guilty()", x.guilty(), 0);
        Due.is("1 fault()", x.fault(), 0);
        Due.is("1 image()", x.image(), STATE);
        Due.is("1 restore()", x.restore(), STATE);
        Due.is("1 about(0, 0)", x.about(0, 0), UNKNOWN);
        int[] counts = {0, 0, NONE, NONE, 0, 0, 0, 0, 0};
        for (int what = 0; what < counts.length; what++) {
            Due.is("1 count(" + what + ")", x.count(what), counts[what]);
        }
        Due.is("1 hall()", x.hall(), STATE);
    }

    private static void letter() {
        LeftProfile x = new LeftProfile();
        Due.is("2 letter(32)", x.letter(32), 1);
        Due.is("2 letter(126)", x.letter(126), 2);
        for (int code : new int[] {31, 127, -1, LOW, HIGH}) {
            refused("2 letter(" + code + ")", x, x.digest(), x.letter(code), OUTSIDE);
        }
        for (int n = 3; n <= 24; n++) {
            Due.is("2 letter " + n, x.letter('.'), n);
        }
        refused("2 letter 25", x, x.digest(), x.letter('.'), FULL);
        Due.is("2 OUTSIDE ahead of FULL", x.letter(31), OUTSIDE);
        Due.is("2 count(7)", x.count(7), 24);
    }

    private static void blank() {
        LeftProfile x = new LeftProfile();
        Due.is("3 blank() of none", x.blank(), 0);
        Due.write(x, OPEN);
        Due.is("3 blank()", x.blank(), 23);
        Due.is("3 count(7)", x.count(7), 0);
        Due.is("3 letter behind it", x.letter('#'), 1);
        Due.is("3 fault() behind it", x.fault(), 1);
    }

    private static void fault() {
        for (int at = 0; at < 24; at++) {
            LeftProfile x = new LeftProfile();
            Due.write(x, OPEN.substring(0, Math.min(at, 23)));
            Due.is("4 fault() of " + at + " good letters", x.fault(), at);
            x.letter(at % 6 == 5 ? '#' : '/');
            Due.is("4 fault() with a wrong letter at " + at, x.fault(), at);
            x.letter(' ');
            Due.is("4 fault() tells the first at " + at, x.fault(), at);
        }
        LeftProfile x = new LeftProfile();
        Due.write(x, WALLS);
        Due.is("4 fault() of walls", x.fault(), 23);
        x.letter('.');
        Due.is("4 fault() of 24", x.fault(), 23);
        x.blank();
        Due.write(x, OPEN + "/");
        Due.is("4 no hall has a fifth row", x.fault(), 23);
        x.blank();
        x.letter('-');
        Due.is("4 fault() of a letter of none", x.fault(), 0);
    }

    private static void hall() {
        LeftProfile x = new LeftProfile();
        Due.write(x, PILLARS.substring(0, 22));
        refused("5 hall() of 22", x, x.digest(), x.hall(), STATE);
        x.letter('#');
        Due.is("5 hall()", x.hall(), 14);
        Due.is("5 the page is empty", x.count(7), 0);
        Due.is("5 hall() of an empty page", x.hall(), STATE);
        x.duke(0, 1);
        x.courtier(3, 10);
        x.told(0, 4);
        x.act(1);
        Due.is("5 somebody saw both", x.about(0, 4) * 10 + x.about(0, 5), 11);
        Due.write(x, OPEN + ".");
        refused("5 hall() of 24", x, x.digest(), x.hall(), STATE);
        x.blank();
        Due.write(x, "...../...../....x/.....");
        refused("5 hall() with a fault", x, x.digest(), x.hall(), STATE);
        x.blank();
        Due.write(x, OPEN);
        Due.is("5 another hall()", x.hall(), 20);
        int[] counts = {20, 0, NONE, NONE, 0, 0, 1, 0, 2};
        for (int what = 0; what < counts.length; what++) {
            Due.is("5 count(" + what + ") in another", x.count(what), counts[what]);
        }
        Due.is("5 on(0) in another", x.on(0), NONE);
        Due.is("5 on(1) in another", x.on(1), NONE);
        Due.is("5 courtier() in another", x.courtier(0, 2), 0);
        Due.is("5 nothing is told in another", x.told(0, 1), NONE);
        Due.is("5 nothing was seen in another", x.about(0, 4) * 10 + x.about(0, 5), 0);
        Due.is("5 hall() of walls", Due.in(WALLS).count(0), 0);
    }

    private static void on() {
        LeftProfile x = new LeftProfile();
        Due.is("6 on(20) without a hall", x.on(20), UNKNOWN);
        Due.is("6 on(19) without a hall", x.on(19), STATE);
        x = Due.in(PILLARS);
        x.duke(0, 0);
        x.courtier(0, 2);
        x.courtier(0, 18);
        int[] due = {9, -2, 0, -2, NONE, NONE, -2, NONE, -2, NONE, NONE, NONE, NONE, NONE, NONE, -2, NONE, NONE, 1, -2};
        for (int place = 0; place < 20; place++) {
            Due.is("6 on(" + place + ")", x.on(place), due[place]);
        }
        for (int place : new int[] {-1, 20, LOW, HIGH}) {
            Due.is("6 on(" + place + ")", x.on(place), UNKNOWN);
        }
    }

    private static void duke() {
        LeftProfile x = new LeftProfile();
        Due.is("7 UNKNOWN first", x.duke(20, 4), UNKNOWN);
        Due.is("7 OUTSIDE then", x.duke(0, 4), OUTSIDE);
        Due.is("7 STATE then", x.duke(0, 3), STATE);
        x = Due.in(PILLARS);
        x.courtier(0, 2);
        Due.is("7 duke(18, 3)", x.duke(18, 3), 75);
        Due.is("7 duke(0, 0)", x.duke(0, 0), 0);
        Due.is("7 he is gone from there", x.on(18), NONE);
        Due.is("7 on the same place", x.duke(0, 2), 2);
        long before = x.digest();
        refused("7 on a wall", x, before, x.duke(1, 0), STATE);
        refused("7 on a courtier", x, before, x.duke(2, 0), STATE);
        for (int wrong : new int[] {-1, 20, LOW, HIGH}) {
            refused("7 duke(" + wrong + ", 0)", x, before, x.duke(wrong, 0), UNKNOWN);
        }
        for (int wrong : new int[] {-1, 4, LOW, HIGH}) {
            refused("7 duke(4, " + wrong + ")", x, before, x.duke(4, wrong), OUTSIDE);
        }
        Due.is("7 no act is counted", x.count(6), 0);
        Due.is("7 nobody looks", x.about(0, 4) + x.about(0, 5), 0);
    }

    private static void courtier() {
        LeftProfile x = new LeftProfile();
        Due.is("8 UNKNOWN first", x.courtier(5, -1), UNKNOWN);
        Due.is("8 OUTSIDE then", x.courtier(5, 0), OUTSIDE);
        Due.is("8 STATE then", x.courtier(4, 0), STATE);
        x = Due.in(PILLARS);
        x.duke(0, 0);
        Due.is("8 the first", x.courtier(4, 2), 0);
        long before = x.digest();
        refused("8 on a wall", x, before, x.courtier(0, 1), STATE);
        refused("8 on the duke", x, before, x.courtier(0, 0), STATE);
        refused("8 on another", x, before, x.courtier(0, 2), STATE);
        for (int wrong : new int[] {-1, 5, LOW, HIGH}) {
            refused("8 courtier(" + wrong + ", 4)", x, before, x.courtier(wrong, 4), OUTSIDE);
        }
        for (int wrong : new int[] {-1, 20, LOW, HIGH}) {
            refused("8 courtier(0, " + wrong + ")", x, before, x.courtier(0, wrong), UNKNOWN);
        }
        for (int n = 1; n < 6; n++) {
            Due.is("8 courtier " + n, x.courtier(n % 5, 9 + n), n);
        }
        before = x.digest();
        refused("8 the seventh", x, before, x.courtier(0, 9), FULL);
        Due.is("8 STATE ahead of FULL", x.courtier(0, 10), STATE);
    }

    private static void about() {
        LeftProfile x = Due.in(OPEN);
        Due.is("9 about(0, 0) of none", x.about(0, 0), UNKNOWN);
        x.courtier(3, 2);
        Due.is("9 KIND", x.about(0, 0), 3);
        Due.is("9 PLACE", x.about(0, 1), 2);
        Due.is("9 SEES, no DUKE", x.about(0, 2), 0);
        Due.is("9 GUILTY, no DUKE", x.about(0, 3), 0);
        x.duke(12, 0);
        Due.is("9 SEES", x.about(0, 2), 3);
        Due.is("9 GUILTY", x.about(0, 3), 1);
        Due.is("9 SAW none yet", x.about(0, 4) + x.about(0, 5), 0);
        x.act(0);
        Due.is("9 SEES the RIGHT", x.about(0, 2), 2);
        Due.is("9 SAW no LEFT", x.about(0, 4), 0);
        Due.is("9 SAW the RIGHT", x.about(0, 5), 1);
        x.act(1);
        Due.is("9 BOTH: the LEFT", x.about(0, 4), 1);
        Due.is("9 BOTH: the RIGHT", x.about(0, 5), 2);
        x.act(1);
        Due.is("9 SAW the LEFT", x.about(0, 4), 2);
        x.act(1);
        Due.is("9 SEES the BACK", x.about(0, 2), 4);
        Due.is("9 the BACK is no cheek", x.about(0, 4) * 10 + x.about(0, 5), 22);
        for (int wrong : new int[] {-1, 6, LOW, HIGH}) {
            Due.is("9 about(0, " + wrong + ")", x.about(0, wrong), OUTSIDE);
        }
        for (int wrong : new int[] {-1, 1, 6, LOW, HIGH}) {
            Due.is("9 about(" + wrong + ", 6)", x.about(wrong, 6), UNKNOWN);
        }
    }

    /** One who stands in each of the eight WAYS from the DUKE, and one in none. */
    private static void seesByWay() {
        int[] places = {7, 8, 13, 18, 17, 16, 11, 6};
        int[] looksUp = {3, 2, 2, 2, 4, 1, 1, 1};
        for (int kind = 0; kind <= 4; kind++) {
            for (int side = 0; side < 4; side++) {
                for (int way = 0; way < 8; way++) {
                    LeftProfile x = Due.in(OPEN);
                    x.duke(12, side);
                    x.courtier(kind, places[way]);
                    int seen = looksUp[(way + 8 - 2 * side) % 8];
                    int due = kind == 1 && seen == 3 ? 0 : seen;
                    String what = "9 kind " + kind + ", side " + side + ", way " + way;
                    Due.is(what + " SEES", x.about(0, 2), due);
                    boolean guilty = kind != 4 && (due == 2 || due == 3);
                    Due.is(what + " GUILTY", x.about(0, 3), guilty ? 1 : 0);
                    Due.is(what + " guilty()", x.guilty(), guilty ? 1 : 0);
                }
            }
        }
        for (int place : new int[] {1, 3, 5, 9, 15, 19}) {
            LeftProfile x = Due.in(OPEN);
            x.duke(12, 0);
            x.courtier(3, place);
            Due.is("9 in no WAY: " + place, x.about(0, 2), 0);
        }
    }

    private static void seesOverAndBetween() {
        int[] farAlone = {1, 1, 0, 1, 1};
        int[] nearAlone = {1, 1, 1, 1, 1};
        int[] overPeople = {0, 0, 0, 1, 1};
        for (int kind = 0; kind <= 4; kind++) {
            LeftProfile x = Due.in(OPEN);
            x.duke(14, 0);
            x.courtier(kind, 11);
            Due.is("9 kind " + kind + " three away", x.about(0, 2), farAlone[kind]);
            x.go(0, 12);
            Due.is("9 kind " + kind + " two away", x.about(0, 2), nearAlone[kind]);
            x.courtier(2, 13);
            Due.is("9 kind " + kind + " over people", x.about(0, 2), overPeople[kind]);
            x.go(0, 2);
            Due.is("9 kind " + kind + " aslant", x.about(0, 2), nearAlone[kind]);
            x.go(1, 8);
            Due.is("9 kind " + kind + " over people aslant", x.about(0, 2), overPeople[kind]);
            x = Due.in("...../...#./...#./.....");
            x.duke(14, 0);
            x.courtier(kind, 12);
            Due.is("9 kind " + kind + " behind a wall", x.about(0, 2), 0);
            x.go(0, 2);
            Due.is("9 kind " + kind + " behind a wall aslant", x.about(0, 2), 0);
        }
        LeftProfile x = Due.in(OPEN);
        x.duke(4, 3);
        x.courtier(0, 5);
        Due.is("9 rows do not go on in the next one", x.about(0, 2), 0);
    }

    private static void as() {
        LeftProfile x = Due.in(OPEN);
        Due.is("10 as(0, 5) of none", x.as(0, 5), UNKNOWN);
        for (int kind = 0; kind <= 4; kind++) {
            x.courtier(kind, kind);
        }
        for (int courtier = 0; courtier <= 4; courtier++) {
            for (int kind = 0; kind <= 4; kind++) {
                boolean so = kind == 0 || kind == courtier || courtier == 4 && kind == 3;
                Due.is("10 as(" + courtier + ", " + kind + ")", x.as(courtier, kind), so ? courtier : NONE);
            }
        }
        for (int wrong : new int[] {-1, 5, LOW, HIGH}) {
            Due.is("10 as(0, " + wrong + ")", x.as(0, wrong), OUTSIDE);
            Due.is("10 as(" + wrong + ", " + wrong + ")", x.as(wrong, wrong), UNKNOWN);
        }
    }

    private static void go() {
        LeftProfile x = Due.in(PILLARS);
        Due.is("11 go(0, 0) of none", x.go(0, 0), UNKNOWN);
        x.duke(0, 0);
        x.courtier(0, 10);
        x.courtier(1, 12);
        Due.is("11 go(0, 5)", x.go(0, 5), 10);
        Due.is("11 he is there", x.on(5), 0);
        Due.is("11 he is gone", x.on(10), NONE);
        Due.is("11 his PLACE", x.about(0, 1), 5);
        Due.is("11 nobody looks", x.about(0, 4) + x.about(0, 5), 0);
        long before = x.digest();
        refused("11 to a wall", x, before, x.go(0, 1), STATE);
        refused("11 to the duke", x, before, x.go(0, 0), STATE);
        refused("11 to another", x, before, x.go(0, 12), STATE);
        refused("11 to himself", x, before, x.go(0, 5), STATE);
        for (int wrong : new int[] {-1, 2, 6, LOW, HIGH}) {
            refused("11 go(" + wrong + ", 1)", x, before, x.go(wrong, 1), UNKNOWN);
        }
        for (int wrong : new int[] {-1, 20, LOW, HIGH}) {
            refused("11 go(0, " + wrong + ")", x, before, x.go(0, wrong), UNKNOWN);
        }
    }

    private static void act() {
        LeftProfile x = Due.in(PILLARS);
        Due.is("12 OUTSIDE ahead of STATE", x.act(3), OUTSIDE);
        Due.is("12 no duke", x.act(0), STATE);
        x.duke(0, 0);
        long before = x.digest();
        refused("12 out of the hall, up", x, before, x.act(2), STATE);
        for (int wrong : new int[] {-1, 3, LOW, HIGH}) {
            refused("12 act(" + wrong + ")", x, before, x.act(wrong), OUTSIDE);
        }
        int[] leftTurns = {3, 2, 1, 0};
        for (int side : leftTurns) {
            Due.is("12 to the left", x.act(0), 0);
            Due.is("12 his side", x.count(3), side);
        }
        Due.is("12 to the right", x.act(1), 0);
        Due.is("12 his side", x.count(3), 1);
        Due.is("12 into a wall", x.act(2), STATE);
        x.act(1);
        x.courtier(0, 10);
        Due.is("12 a step shows both", x.act(2), 1);
        Due.is("12 where he is", x.count(2), 5);
        Due.is("12 into somebody", x.act(2), STATE);
        Due.is("12 acts", x.count(6), 7);
        Due.is("12 looks at done acts alone", x.about(0, 4) * 10 + x.about(0, 5), 11);
        x = Due.in(OPEN);
        int[][] edges = {{2, 0}, {9, 1}, {17, 2}, {10, 3}};
        for (int[] edge : edges) {
            x.duke(edge[0], edge[1]);
            Due.is("12 out of the hall, side " + edge[1], x.act(2), STATE);
            x.act(0);
            x.act(0);
            Due.is("12 into the hall from side " + edge[1], x.act(2), 0);
            Due.is("12 he went on", x.count(2), edge[0] + new int[] {5, -1, -5, 1}[edge[1]]);
        }
        x.duke(12, 0);
        x.courtier(0, 8);
        x.courtier(3, 3);
        x.courtier(4, 13);
        Due.is("12 many are guilty", x.act(2), 2);
    }

    private static void guilty() {
        LeftProfile x = Due.in(OPEN);
        x.courtier(0, 6);
        x.courtier(0, 8);
        x.courtier(1, 2);
        x.courtier(4, 13);
        x.courtier(2, 9);
        x.courtier(3, 3);
        Due.is("13 no duke", x.guilty(), 0);
        x.duke(7, 0);
        Due.is("13 guilty()", x.guilty(), 0b100010);
        x.go(1, 19);
        Due.is("13 nobody between now, but between him and 19", x.guilty(), 0b110000);
        x.duke(7, 1);
        Due.is("13 he looks to the right", x.guilty(), 0b010000);
    }

    private static void room() {
        LeftProfile x = Due.in(OPEN);
        Due.is("14 OUTSIDE ahead of STATE", x.room(0, 0), OUTSIDE);
        Due.is("14 no duke", x.room(1, 0), STATE);
        x.duke(0, 3);
        // 1 to 4 are all straight behind him.
        Due.is("14 room(3, 0)", x.room(3, 0), 1);
        Due.is("14 room(3, 1)", x.room(3, 1), 2);
        Due.is("14 room(3, 2)", x.room(3, 2), 3);
        Due.is("14 room(1, 0)", x.room(1, 0), 1);
        Due.is("14 none such in it", x.room(1, 1), NONE);
        Due.is("14 none such in it", x.room(2, 2), NONE);
        for (int wrong : new int[] {-1, 0, 4, LOW, HIGH}) {
            Due.is("14 room(" + wrong + ", 0)", x.room(wrong, 0), OUTSIDE);
        }
        for (int wrong : new int[] {-1, 3, LOW, HIGH}) {
            Due.is("14 room(1, " + wrong + ")", x.room(1, wrong), OUTSIDE);
        }
        x.duke(19, 1);
        Due.is("14 from the first place on", x.room(2, 0) * 100 + x.room(2, 1), 1);
        x.duke(0, 3);
        roomThatBarsTheSight();
        roomWhereSixStand();
        Due.is("14 nobody came", x.count(1), 0);
    }

    /** Those who come bar the sight of others and of one another. */
    private static void roomThatBarsTheSight() {
        LeftProfile x = Due.in("#####/...../#####/#####");
        x.duke(5, 0);
        x.courtier(0, 9);
        Due.is("14 somebody is guilty", x.guilty(), 1);
        Due.is("14 each one more would be, too", x.room(1, 0), NONE);
        x = Due.in("#####/.#.#./..#../.....");
        x.duke(17, 3);
        x.courtier(1, 16);
        Due.is("14 a minister bows", x.guilty(), 0);
        Due.is("14 not where they see: 5 and 9 aslant", x.room(2, 0), 7);
        x = Due.in("#####/...../#####/#####");
        x.duke(7, 1);
        x.courtier(3, 9);
        Due.is("14 a tall one looks over all", x.room(1, 0), NONE);
        x.go(0, 8);
        x.courtier(1, 9);
        Due.is("14 nothing helps against one who stands next", x.room(1, 0), NONE);
        x = Due.in("#####/...../#####/#####");
        x.duke(7, 1);
        x.courtier(1, 8);
        Due.is("14 behind a minister and behind the duke", x.room(3, 0) * 10000 + x.room(3, 1) * 100 + x.room(3, 2), 50609);
        x.go(0, 9);
        Due.is("14 the minister's place ahead is free", x.room(3, 0), NONE);
    }

    /** The document bounds how many COURTIERS come, not for how many ROOM is asked. */
    private static void roomWhereSixStand() {
        LeftProfile x = Due.in(OPEN);
        x.duke(0, 3);
        for (int n = 0; n < 6; n++) {
            x.courtier(4, 19 - n);
        }
        Due.is("14 six stand there", x.room(3, 2), 3);
    }

    private static void brick() {
        LeftProfile x = Due.in(OPEN);
        Due.is("15 OUTSIDE ahead of STATE", x.brick(2), OUTSIDE);
        Due.is("15 no duke", x.brick(0), STATE);
        x.duke(5, 1);
        Due.is("15 of like ones the least", x.brick(0), 0);
        Due.is("15 nobody is guilty", x.brick(1), 0);
        x.courtier(0, 8);
        Due.is("15 brick(0)", x.brick(0), 6);
        Due.is("15 brick(1)", x.brick(1), 0);
        x.courtier(3, 9);
        Due.is("15 both by one", x.brick(0), 6);
        x.courtier(0, 10);
        Due.is("15 not all", x.brick(1), 1);
        x.go(1, 17);
        Due.is("15 the least of like ones", x.brick(0), 6);
        Due.is("15 two are left", x.brick(1), 2);
        for (int wrong : new int[] {-1, 2, LOW, HIGH}) {
            Due.is("15 brick(" + wrong + ")", x.brick(wrong), OUTSIDE);
        }
        Due.is("15 nothing is built", x.on(6), NONE);
        x = Due.in("..###/#####/#####/#####");
        x.duke(0, 1);
        x.courtier(0, 1);
        Due.is("15 no empty floor", x.brick(0), NONE);
        Due.is("15 no empty floor", x.brick(1), NONE);
        x = Due.in(OPEN);
        x.duke(10, 1);
        for (int place : new int[] {11, 12, 13, 14, 15, 16}) {
            x.courtier(3, place);
        }
        Due.is("15 nothing helps: the place", x.brick(0), 0);
        Due.is("15 nothing helps: how many", x.brick(1), 6);
    }

    private static void way() {
        LeftProfile x = Due.in(OPEN);
        Due.is("16 UNKNOWN first", x.way(20, 2), UNKNOWN);
        Due.is("16 OUTSIDE then", x.way(0, 2), OUTSIDE);
        Due.is("16 STATE then", x.way(0, 1), STATE);
        x.duke(12, 0);
        Due.is("16 he stands there", x.way(12, 0), 0);
        Due.is("16 nothing to do first", x.way(12, 1), NONE);
        Due.is("16 two ahead", x.way(2, 0), 2);
        Due.is("16 two ahead, first", x.way(2, 1), 2);
        Due.is("16 behind: two turns", x.way(17, 0), 3);
        Due.is("16 behind: the least act", x.way(17, 1), 0);
        Due.is("16 to the right", x.way(13, 1), 1);
        Due.is("16 to the first place and look", x.way(0, 0), 5);
        Due.is("16 to the last place", x.way(19, 0), 5);
        Due.is("16 left and ahead", x.way(6, 0), 3);
        Due.is("16 left and ahead: the step first saves a turn", x.way(6, 1), 2);
        for (int wrong : new int[] {-1, 20, LOW, HIGH}) {
            Due.is("16 way(" + wrong + ", 0)", x.way(wrong, 0), UNKNOWN);
        }
        for (int wrong : new int[] {-1, 2, LOW, HIGH}) {
            Due.is("16 way(0, " + wrong + ")", x.way(0, wrong), OUTSIDE);
        }
        wayRoundThoseWhoSee();
        Due.is("16 he did not go", x.count(2) * 10 + x.count(6), 120);
    }

    private static void wayRoundThoseWhoSee() {
        LeftProfile x = Due.in(PILLARS);
        x.duke(0, 1);
        Due.is("16 to a wall", x.way(1, 0), NONE);
        x.courtier(0, 4);
        Due.is("16 to somebody's place", x.way(4, 0), NONE);
        Due.is("16 round the pillars", x.way(2, 0), 9);
        x = Due.in("...../#####/#####/#####");
        x.duke(0, 1);
        x.courtier(0, 4);
        Due.is("16 he is seen at the start alone, but at each step", x.way(1, 0), NONE);
        Due.is("16 that he is seen where he stands is nothing", x.way(0, 0), 0);
        x.go(0, 2);
        x.duke(1, 0);
        Due.is("16 the right is seen at once", x.guilty(), 1);
        Due.is("16 but not behind a turn to the left", x.way(0, 0), 2);
        Due.is("16 the turn to the left", x.way(0, 1), 0);
        x = Due.in("...../...../...../.....");
        x.duke(7, 0);
        x.courtier(4, 2);
        Due.is("16 a buyer may see, but stands in the way", x.way(2, 0), NONE);
    }

    private static void told() {
        LeftProfile x = Due.in(OPEN);
        Due.is("17 of none", x.told(0, 5), UNKNOWN);
        x.courtier(0, 0);
        x.courtier(0, 1);
        Due.is("17 NONE so far", x.told(0, 4), NONE);
        Due.is("17 what was told", x.told(0, 0), 4);
        Due.is("17 count(5)", x.count(5), 1);
        Due.is("17 of the other nothing", x.told(1, 3), NONE);
        Due.is("17 count(5)", x.count(5), 2);
        long before = x.digest();
        for (int wrong : new int[] {-2, 5, LOW, HIGH}) {
            refused("17 told(0, " + wrong + ")", x, before, x.told(0, wrong), OUTSIDE);
            refused("17 told(" + wrong + ", 5)", x, before, x.told(wrong, 5), UNKNOWN);
        }
        Due.is("17 nothing any more", x.told(0, NONE), 0);
        Due.is("17 count(5)", x.count(5), 1);
        Due.is("17 it was nothing", x.told(0, NONE), NONE);
    }

    private static void stood() {
        LeftProfile x = new LeftProfile();
        Due.is("18 OUTSIDE ahead of STATE", x.stood(3), OUTSIDE);
        Due.is("18 no hall", x.stood(0), STATE);
        x = Due.in(PILLARS);
        Due.is("18 each floor and side", x.stood(0), 56);
        x.courtier(0, 12);
        Due.is("18 no courtier there", x.stood(0), 52);
        Due.is("18 not sure of the place", x.stood(1), NONE);
        Due.is("18 not sure of the side", x.stood(2), NONE);
        x.duke(0, 0);
        Due.is("18 whether he is there now is nothing", x.stood(0), 52);
        x = Due.in("#####/#...#/#####/#####");
        x.courtier(0, 6);
        x.told(0, 3);
        Due.is("18 two places", x.stood(0), 2);
        Due.is("18 not sure which", x.stood(1), NONE);
        Due.is("18 sure of the side", x.stood(2), 3);
        x.courtier(0, 8);
        Due.is("18 one place", x.stood(0), 1);
        Due.is("18 sure of the place", x.stood(1), 7);
        x.told(0, NONE);
        Due.is("18 nothing is told", x.stood(0), 4);
        Due.is("18 sure of the place, not of the side", x.stood(1) * 10 + x.stood(2), 69);
        x.told(0, 3);
        x.told(1, 3);
        Due.is("18 they can't both", x.stood(0), 0);
        Due.is("18 there are none", x.stood(1), NONE);
        Due.is("18 there are none", x.stood(2), NONE);
        for (int wrong : new int[] {-1, 3, LOW, HIGH}) {
            Due.is("18 stood(" + wrong + ")", x.stood(wrong), OUTSIDE);
        }
        Due.is("18 in no floor", Due.in(WALLS).stood(0), 0);
    }

    private static void walk() {
        LeftProfile x = Due.in(OPEN);
        Due.is("19 OUTSIDE ahead of STATE", x.walk(0, 0, 0), OUTSIDE);
        Due.is("19 no duke", x.walk(1, 0, 0), STATE);
        x.duke(0, 0);
        x.courtier(0, 19);
        x.courtier(3, 12);
        long before = x.digest();
        // From 0 the next seeds are 12345 (by 65536: 0, a turn to the left) and 1406932606 (21468: the same).
        Due.is("19 the first seed", x.walk(1, 0, 3), 12345);
        Due.is("19 the first side", x.walk(1, 0, 1), 3);
        Due.is("19 the second seed", x.walk(2, 0, 3), 1406932606);
        Due.is("19 the second side", x.walk(2, 0, 1), 2);
        Due.is("19 the place", x.walk(2, 0, 0), 0);
        // Who stands aslant on 12 sees the LEFT of one on 0 who looks to the left, and of one who looks down.
        Due.is("19 nobody was guilty", x.walk(2, 0, 2), 0);
        walkStepByStep(x);
        for (int wrong : new int[] {-1, 0, 61, LOW, HIGH}) {
            Due.is("19 walk(" + wrong + ", 1, 0)", x.walk(wrong, 1, 0), OUTSIDE);
        }
        for (int wrong : new int[] {-1, LOW}) {
            Due.is("19 walk(1, " + wrong + ", 0)", x.walk(1, wrong, 0), OUTSIDE);
        }
        for (int wrong : new int[] {-1, 4, LOW, HIGH}) {
            Due.is("19 walk(1, 1, " + wrong + ")", x.walk(1, 1, wrong), OUTSIDE);
        }
        Due.is("19 the greatest seed", x.walk(60, HIGH, 3) >= 0 ? 1 : 0, 1);
        Due.is("19 nothing changed", x.digest(), before);
    }

    /** What a WALK tells is what the ACTS themselves would come to. */
    private static void walkStepByStep(LeftProfile walker) {
        LeftProfile x = Due.in(OPEN);
        x.duke(0, 0);
        x.courtier(0, 19);
        x.courtier(3, 12);
        long seed = 4711;
        int guilty = 0;
        for (int n = 1; n <= 60; n++) {
            seed = (1103515245L * seed + 12345L) % (1L << 31);
            int then = x.act((int) (seed / 65536 % 3));
            guilty += then == STATE ? 0 : then;
            Due.is("19 the place behind " + n, walker.walk(n, 4711, 0), x.count(2));
            Due.is("19 the side behind " + n, walker.walk(n, 4711, 1), x.count(3));
            Due.is("19 guilty behind " + n, walker.walk(n, 4711, 2), guilty);
            Due.is("19 the seed behind " + n, walker.walk(n, 4711, 3), seed);
        }
        Due.holds("19 the walk shows somebody the right, and goes into walls", guilty > 0 && x.count(6) < 60);
    }

    private static void image() {
        LeftProfile x = new LeftProfile();
        Due.is("20 no hall", x.image(), STATE);
        x = Due.in(OPEN);
        Due.is("20 nobody", x.image(), 0);
        x.courtier(0, 1);
        x.courtier(0, 2);
        long before = x.digest();
        Due.is("20 image()", x.image(), 2);
        Due.is("20 nothing changed", x.digest(), before);
        Due.is("20 the latest is kept", x.restore(), 2);
    }

    private static void restore() {
        LeftProfile x = Due.in(OPEN);
        Due.is("21 none was kept", x.restore(), STATE);
        x.duke(12, 0);
        x.courtier(0, 8);
        x.courtier(1, 7);
        x.told(0, 2);
        x.act(0);
        long then = x.digest();
        Due.is("21 image()", x.image(), 2);
        for (int again = 0; again < 2; again++) {
            x.act(1);
            x.act(1);
            x.act(2);
            x.go(0, 0);
            x.told(0, NONE);
            x.told(1, 3);
            x.courtier(4, 19);
            x.told(2, 4);
            Due.is("21 restore()", x.restore(), 2);
            Due.is("21 all is as it was", x.digest(), then);
            Due.is("21 acts", x.count(6), 1);
            Due.is("21 who came since is gone", x.on(19), NONE);
            Due.is("21 who came since is unknown", x.about(2, 0), UNKNOWN);
        }
        x.courtier(4, 13);
        x.act(1);
        x.act(1);
        x.act(1);
        Due.is("21 who is gone saw", x.about(2, 4) * 10 + x.about(2, 5), 22);
        x.restore();
        Due.is("21 another comes", x.courtier(3, 19), 2);
        Due.is("21 nothing was told of him", x.told(2, 0), NONE);
        Due.is("21 he saw nothing", x.about(2, 4) + x.about(2, 5), 0);
        x.letter('.');
        x.restore();
        Due.is("21 the page is none of it", x.blank(), 1);
        Due.write(x, OPEN);
        x.hall();
        refused("21 another hall, if of the same text", x, x.digest(), x.restore(), STATE);
        x.image();
        x.duke(3, 3);
        Due.is("21 without a duke", x.restore(), 0);
        Due.is("21 he is gone", x.count(2), NONE);
        Due.is("21 he looks nowhere", x.count(3), NONE);
    }

    private static void count() {
        LeftProfile x = Due.in(PILLARS);
        x.duke(12, 2);
        x.courtier(0, 11);
        x.courtier(2, 17);
        x.courtier(4, 10);
        x.told(1, 3);
        x.act(1);
        x.act(0);
        x.letter('x');
        int[] counts = {14, 3, 12, 2, 2, 1, 2, 1, 1};
        for (int what = 0; what < counts.length; what++) {
            Due.is("22 count(" + what + ")", x.count(what), counts[what]);
        }
        for (int wrong : new int[] {-1, 9, LOW, HIGH}) {
            Due.is("22 count(" + wrong + ")", x.count(wrong), OUTSIDE);
        }
    }

    private static long mix(int... numbers) {
        long h = 719;
        for (int n : numbers) {
            h = 31 * h + n;
        }
        return h;
    }

    private static void digest() {
        LeftProfile x = new LeftProfile();
        Due.is("23 of a new object", x.digest(), mix(0, 0, -1, -1, 0, 0, 0, 0, 0));
        x.letter('/');
        x.letter('~');
        Due.is("23 of a page", x.digest(), mix(47, 126, 0, 0, -1, -1, 0, 0, 0, 2, 0));
        x = Due.in("..###/#####/#####/#####");
        Due.is("23 of a hall", x.digest(), mix(-1, -1, -2, -2, -2, -2, -2, -2, -2, -2, -2, -2, -2, -2, -2, -2, -2, -2,
                -2, -2, 8, -1, -1, 2, 0, -1, -1, 0, 0, 0, 0, 1));
        x.courtier(3, 1);
        x.duke(0, 0);
        x.act(1);
        x.told(0, 3);
        x.letter('#');
        Due.is("23 of people", x.digest(), mix(9, 0, -2, -2, -2, -2, -2, -2, -2, -2, -2, -2, -2, -2, -2, -2, -2, -2,
                -2, -2, 3, 1, 3, 1, 1, 1, 3, -1, -1, -1, -1, 0, -1, 1, 0, 1, 35, 2, 1, 0, 1, 1, 1, 1, 1, 1));
        digestOfMuch();
        long once = x.digest();
        Due.is("23 once more", x.digest(), once);
    }

    /** The duke's own numbers are the ones that his calls tell, each in its place. */
    private static void digestOfMuch() {
        LeftProfile x = Due.in("..#../...../...../.....");
        x.duke(11, 0);
        x.courtier(0, 9);
        // He can't come up to row 1 without showing it the RIGHT; to 19 he comes along row 2 and down.
        int[] due = {-1, -1, -2, -1, -1, -1, -1, -1, -1, 0, -1, 9, -1, -1, -1, -1, -1, -1, -1, -1,
            0, 9, 0, 0, 0, 0, -1,
            0, 4, 0, 0, -1, 6,
            72, -1, -1,
            19, 1, 11, 0, 0, 0, 0, 0, 1};
        Due.is("23 of much", x.digest(), mix(due));
    }
}
