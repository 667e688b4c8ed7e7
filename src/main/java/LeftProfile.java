import java.util.Arrays;

/** A court that may see its duke from the left only. The project's document says what each call promises. */
public final class LeftProfile {
    public static final int NONE = -1, UNKNOWN = -101, OUTSIDE = -102, STATE = -103, FULL = -104;

    private static final int ROWS = 4, COLUMNS = 5, PLACES = 20, SIDES = 4, WAYS = 8, STANCES = PLACES * SIDES;
    private static final int COURTIER = 0, MINISTER = 1, SHORT = 2, TALL = 3, BUYER = 4;
    private static final int NOTHING = 0, LEFT = 1, RIGHT = 2, BOTH = 3, BACK = 4;
    private static final int TO_THE_LEFT = 0, TO_THE_RIGHT = 1, STEP = 2, ACTS = 3;
    private static final int IS_WALL = -2, IS_DUKE = 9;
    private static final int MOST_COURTIERS = 6, SHORT_REACH = 2;
    private static final int MOST_ROOM = 3, MOST_TIMES = 60;

    // The eight WAYS go round from "up" by the right hand, so a SIDE is every second one of them.
    private static final int[] ROWS_ON = {-1, -1, 0, 1, 1, 1, 0, -1};
    private static final int[] COLUMNS_ON = {0, 1, 1, 1, 0, -1, -1, -1};

    private final Page page = new Page();
    private final Scene scene = new Scene();
    private final Hall hall = scene.hall;
    private final Court court = scene.court;
    private final Court kept = new Court();
    private final Route route = new Route();
    // The number of the reading of a HALL that the IMAGE belongs to; 0: no IMAGE was kept.
    private int keptReading = 0;

    public LeftProfile() {
    }

    // ---- the hall

    public int letter(int code) {
        if (code < 32 || code > 126) {
            return OUTSIDE;
        }
        return page.add(code);
    }

    public int blank() {
        return page.clear();
    }

    public int fault() {
        return page.firstFault();
    }

    public int hall() {
        if (!page.isHall()) {
            return STATE;
        }
        hall.read(page);
        page.clear();
        court.leave();
        return hall.floors;
    }

    public int on(int place) {
        if (!isPlace(place)) {
            return UNKNOWN;
        }
        if (hall.isMissing()) {
            return STATE;
        }
        if (!isOpen(place, hall.walls)) {
            return IS_WALL;
        }
        return place == placeOf(court.stance) ? IS_DUKE : court.whoIsOn(place);
    }

    // ---- people

    public int duke(int place, int side) {
        if (!isPlace(place)) {
            return UNKNOWN;
        }
        if (side < 0 || side >= SIDES) {
            return OUTSIDE;
        }
        if (hall.isMissing() || !isOpen(place, hall.walls | court.people())) {
            return STATE;
        }
        court.stance = stanceOf(place, side);
        return court.stance;
    }

    public int courtier(int kind, int place) {
        if (!isPlace(place)) {
            return UNKNOWN;
        }
        if (!isKind(kind)) {
            return OUTSIDE;
        }
        if (hall.isMissing() || !isOpen(place, scene.taken())) {
            return STATE;
        }
        return court.join(kind, place);
    }

    public int about(int courtier, int what) {
        if (!court.has(courtier)) {
            return UNKNOWN;
        }
        switch (what) {
            case 0:
                return court.kinds[courtier];
            case 1:
                return court.places[courtier];
            case 2:
                return scene.seenBy(courtier);
            case 3:
                return (scene.guiltyIf(court.stance, hall.walls) & bit(courtier)) != 0 ? 1 : 0;
            case 4:
                return court.sawLeft[courtier];
            case 5:
                return court.sawRight[courtier];
            default:
                return OUTSIDE;
        }
    }

    public int as(int courtier, int kind) {
        if (!court.has(courtier)) {
            return UNKNOWN;
        }
        if (!isKind(kind)) {
            return OUTSIDE;
        }
        return isOfKind(court.kinds[courtier], kind) ? courtier : NONE;
    }

    public int go(int courtier, int place) {
        if (!court.has(courtier) || !isPlace(place)) {
            return UNKNOWN;
        }
        if (!isOpen(place, scene.taken())) {
            return STATE;
        }
        int before = court.places[courtier];
        court.places[courtier] = place;
        return before;
    }

    public int act(int act) {
        if (act < 0 || act >= ACTS) {
            return OUTSIDE;
        }
        int next = scene.after(court.stance, act);
        if (next == NONE) {
            return STATE;
        }
        court.stance = next;
        court.acts++;
        scene.everybodyLooks();
        return Integer.bitCount(scene.guiltyIf(court.stance, hall.walls));
    }

    public int guilty() {
        return scene.guiltyIf(court.stance, hall.walls);
    }

    // ---- what would be

    public int room(int many, int i) {
        if (many < 1 || many > MOST_ROOM || i < 0 || i >= MOST_ROOM) {
            return OUTSIDE;
        }
        if (court.stance == NONE) {
            return STATE;
        }
        return placeInSet(scene.roomFor(many), i);
    }

    public int brick(int what) {
        if (what < 0 || what > 1) {
            return OUTSIDE;
        }
        if (court.stance == NONE) {
            return STATE;
        }
        int place = scene.bestBrick();
        if (what == 0 || place == NONE) {
            return place;
        }
        return Integer.bitCount(scene.guiltyIf(court.stance, hall.walls | bit(place)));
    }

    public int way(int place, int what) {
        if (!isPlace(place)) {
            return UNKNOWN;
        }
        if (what < 0 || what > 1) {
            return OUTSIDE;
        }
        if (court.stance == NONE) {
            return STATE;
        }
        int end = route.find(scene, court.stance, place);
        if (end == NONE) {
            return NONE;
        }
        return what == 0 ? route.lengthTo(end) : route.firstTo(end);
    }

    // ---- told back

    public int told(int courtier, int what) {
        if (!court.has(courtier)) {
            return UNKNOWN;
        }
        if (what < NONE || what > BACK) {
            return OUTSIDE;
        }
        int before = court.told[courtier];
        court.told[courtier] = what;
        return before;
    }

    public int stood(int what) {
        if (what < 0 || what > 2) {
            return OUTSIDE;
        }
        if (hall.isMissing()) {
            return STATE;
        }
        return scene.whereHeStood(what);
    }

    public int walk(int times, int seed, int what) {
        if (times < 1 || times > MOST_TIMES || seed < 0 || what < 0 || what > 3) {
            return OUTSIDE;
        }
        if (court.stance == NONE) {
            return STATE;
        }
        return scene.afterWalk(times, seed, what);
    }

    // ---- what is told of all

    public int image() {
        if (hall.isMissing()) {
            return STATE;
        }
        kept.takeFrom(court);
        keptReading = hall.readings;
        return court.size;
    }

    public int restore() {
        if (keptReading == 0 || keptReading != hall.readings) {
            return STATE;
        }
        court.takeFrom(kept);
        return court.size;
    }

    public int count(int what) {
        switch (what) {
            case 0:
                return hall.floors;
            case 1:
                return court.size;
            case 2:
                return placeOf(court.stance);
            case 3:
                return sideOf(court.stance);
            case 4:
                return Integer.bitCount(scene.guiltyIf(court.stance, hall.walls));
            case 5:
                return court.howManyTold();
            case 6:
                return court.acts;
            case 7:
                return page.size;
            case 8:
                return hall.readings;
            default:
                return OUTSIDE;
        }
    }

    public long digest() {
        long h = 719;
        if (!hall.isMissing()) {
            for (int place = 0; place < PLACES; place++) {
                h = mixed(h, on(place));
            }
        }
        h = mixedCourtiers(h);
        if (court.stance != NONE) {
            h = mixed(mixed(h, room(2, 0)), room(2, 1));
            h = mixed(mixed(h, brick(0)), brick(1));
            h = mixed(mixed(h, way(0, 0)), way(PLACES - 1, 0));
        }
        if (!hall.isMissing()) {
            for (int what = 0; what <= 2; what++) {
                h = mixed(h, stood(what));
            }
        }
        for (int i = 0; i < page.size; i++) {
            h = mixed(h, page.codeAt(i));
        }
        for (int what = 0; what <= 8; what++) {
            h = mixed(h, count(what));
        }
        return h;
    }

    private long mixedCourtiers(long start) {
        long h = start;
        for (int i = 0; i < court.size; i++) {
            for (int what = 0; what <= 5; what++) {
                h = mixed(h, about(i, what));
            }
            h = mixed(h, court.told[i]);
        }
        return h;
    }

    private static long mixed(long h, int number) {
        return 31 * h + number;
    }

    // ---- places, sides, kinds

    private static boolean isPlace(int place) {
        return place >= 0 && place < PLACES;
    }

    private static boolean isKind(int kind) {
        return kind >= COURTIER && kind <= BUYER;
    }

    private static boolean isOfKind(int kind, int asked) {
        return asked == kind || asked == COURTIER || asked == TALL && kind == BUYER;
    }

    private static int bit(int number) {
        return 1 << number;
    }

    /** Whether it is a PLACE that the set of barred ones leaves out. */
    private static boolean isOpen(int place, int barred) {
        return isPlace(place) && (barred & bit(place)) == 0;
    }

    private static int placeInSet(int set, int index) {
        int left = index;
        for (int place = 0; place < PLACES; place++) {
            if ((set & bit(place)) != 0) {
                if (left == 0) {
                    return place;
                }
                left--;
            }
        }
        return NONE;
    }

    /** The next PLACE by a WAY; NONE: the HALL ends here. */
    private static int neighbour(int place, int way) {
        if (!isPlace(place) || way < 0 || way >= WAYS) {
            return NONE;
        }
        int row = place / COLUMNS + ROWS_ON[way];
        int column = place % COLUMNS + COLUMNS_ON[way];
        if (row < 0 || row >= ROWS || column < 0 || column >= COLUMNS) {
            return NONE;
        }
        return row * COLUMNS + column;
    }

    // A stance is the DUKE's PLACE and SIDE in one number, NONE where there is no DUKE.

    private static int stanceOf(int place, int side) {
        return place * SIDES + side;
    }

    private static int placeOf(int stance) {
        return stance < 0 ? NONE : stance / SIDES;
    }

    private static int sideOf(int stance) {
        return stance < 0 ? NONE : stance % SIDES;
    }

    /** THE PAGE: the letters that may become a HALL. */
    private static final class Page {
        private static final int MOST_LETTERS = 24, HALL_LETTERS = 23, ROW_LETTERS = COLUMNS + 1;

        private final int[] codes = new int[MOST_LETTERS];
        int size = 0;

        int add(int code) {
            if (size >= MOST_LETTERS) {
                return FULL;
            }
            codes[size] = code;
            size++;
            return size;
        }

        int clear() {
            int before = size;
            size = 0;
            return before;
        }

        int codeAt(int index) {
            return index >= 0 && index < size ? codes[index] : NONE;
        }

        int firstFault() {
            for (int i = 0; i < size; i++) {
                if (!fits(i)) {
                    return i;
                }
            }
            return size;
        }

        boolean isHall() {
            return size == HALL_LETTERS && firstFault() == HALL_LETTERS;
        }

        boolean isWall(int place) {
            return codeAt(place / COLUMNS * ROW_LETTERS + place % COLUMNS) == '#';
        }

        private boolean fits(int index) {
            if (index >= HALL_LETTERS) {
                return false;
            }
            int code = codeAt(index);
            if (index % ROW_LETTERS == COLUMNS) {
                return code == '/';
            }
            return code == '.' || code == '#';
        }
    }

    /** THE HALL: the set of its WALLs. */
    private static final class Hall {
        int walls = 0;
        int floors = 0;
        int readings = 0;

        boolean isMissing() {
            return readings == 0;
        }

        void read(Page page) {
            walls = 0;
            for (int place = 0; place < PLACES; place++) {
                if (page.isWall(place)) {
                    walls |= bit(place);
                }
            }
            floors = PLACES - Integer.bitCount(walls);
            readings++;
        }
    }

    /** The DUKE and his COURTIERS, with all that an IMAGE keeps. */
    private static final class Court {
        int stance = NONE;
        int acts = 0;
        int size = 0;
        final int[] kinds = new int[MOST_COURTIERS];
        final int[] places = new int[MOST_COURTIERS];
        final int[] sawLeft = new int[MOST_COURTIERS];
        final int[] sawRight = new int[MOST_COURTIERS];
        final int[] told = new int[MOST_COURTIERS];

        boolean has(int courtier) {
            return courtier >= 0 && courtier < size && courtier < MOST_COURTIERS;
        }

        /** The ACTS stay counted: the document names all that is gone with a HALL, and they are not among it. */
        void leave() {
            stance = NONE;
            size = 0;
        }

        int join(int kind, int place) {
            if (size >= MOST_COURTIERS) {
                return FULL;
            }
            int number = size;
            kinds[number] = kind;
            places[number] = place;
            sawLeft[number] = 0;
            sawRight[number] = 0;
            told[number] = NONE;
            size++;
            return number;
        }

        void takeFrom(Court other) {
            stance = other.stance;
            acts = other.acts;
            size = other.size;
            System.arraycopy(other.kinds, 0, kinds, 0, MOST_COURTIERS);
            System.arraycopy(other.places, 0, places, 0, MOST_COURTIERS);
            System.arraycopy(other.sawLeft, 0, sawLeft, 0, MOST_COURTIERS);
            System.arraycopy(other.sawRight, 0, sawRight, 0, MOST_COURTIERS);
            System.arraycopy(other.told, 0, told, 0, MOST_COURTIERS);
        }

        /** The set of PLACES where COURTIERS stand. */
        int people() {
            int set = 0;
            for (int i = 0; i < size; i++) {
                set |= bit(places[i]);
            }
            return set;
        }

        int whoIsOn(int place) {
            for (int i = 0; i < size; i++) {
                if (places[i] == place) {
                    return i;
                }
            }
            return NONE;
        }

        int howManyTold() {
            int many = 0;
            for (int i = 0; i < size; i++) {
                if (told[i] != NONE) {
                    many++;
                }
            }
            return many;
        }

        void look(int courtier, int seen) {
            if (!has(courtier)) {
                return;
            }
            if (seen == LEFT || seen == BOTH) {
                sawLeft[courtier]++;
            }
            if (seen == RIGHT || seen == BOTH) {
                sawRight[courtier]++;
            }
        }
    }

    /** Which WAY each PLACE lies in from each other one, and what is between: the same in every HALL. */
    private static final class Sight {
        private final int[] ways = new int[PLACES * PLACES];
        private final int[] between = new int[PLACES * PLACES];

        Sight() {
            Arrays.fill(ways, NONE);
            for (int place = 0; place < PLACES; place++) {
                for (int way = 0; way < WAYS; way++) {
                    follow(place, way);
                }
            }
        }

        private void follow(int start, int way) {
            int passed = 0;
            int place = neighbour(start, way);
            for (int distance = 1; distance < COLUMNS && isPlace(place); distance++) {
                ways[start * PLACES + place] = way;
                between[start * PLACES + place] = passed;
                passed |= bit(place);
                place = neighbour(place, way);
            }
        }

        /** What one of a KIND on a PLACE SEES of the DUKE, if WALLs and people stand on these sets of PLACES. */
        int seen(int kind, int place, int stance, int walls, int people) {
            int dukePlace = placeOf(stance);
            if (!isPlace(place) || !isPlace(dukePlace)) {
                return NOTHING;
            }
            int way = ways[dukePlace * PLACES + place];
            if (way == NONE || isBarred(kind, between[dukePlace * PLACES + place], walls, people)) {
                return NOTHING;
            }
            int cheek = cheekFrom(Math.floorMod(way - 2 * sideOf(stance), WAYS));
            return kind == MINISTER && cheek == BOTH ? NOTHING : cheek;
        }

        boolean isGuilty(int kind, int place, int stance, int walls, int people) {
            int seen = seen(kind, place, stance, walls, people);
            return kind != BUYER && (seen == RIGHT || seen == BOTH);
        }

        private static boolean isBarred(int kind, int passed, int walls, int people) {
            if ((passed & walls) != 0) {
                return true;
            }
            // One fewer lies between than he is PLACES away.
            if (kind == SHORT && Integer.bitCount(passed) >= SHORT_REACH) {
                return true;
            }
            return !isOfKind(kind, TALL) && (passed & people) != 0;
        }

        /** The WAY is counted from where the DUKE looks to, round by his right hand. */
        private static int cheekFrom(int way) {
            if (way == 0) {
                return BOTH;
            }
            if (way == WAYS / 2) {
                return BACK;
            }
            return way < WAYS / 2 ? RIGHT : LEFT;
        }
    }

    /** What is seen in the HALL, and what would be if something were otherwise. */
    private static final class Scene {
        final Hall hall = new Hall();
        final Court court = new Court();
        private final Sight sight = new Sight();

        /** The set of PLACES that are no empty FLOOR. */
        int taken() {
            int set = hall.walls | court.people();
            return court.stance == NONE ? set : set | bit(placeOf(court.stance));
        }

        int seenBy(int courtier) {
            return seenIf(court.stance, courtier, court.people());
        }

        private int seenIf(int stance, int courtier, int people) {
            if (stance == NONE || !court.has(courtier)) {
                return NOTHING;
            }
            return sight.seen(court.kinds[courtier], court.places[courtier], stance, hall.walls, people);
        }

        void everybodyLooks() {
            int people = court.people();
            for (int i = 0; i < court.size; i++) {
                court.look(i, seenIf(court.stance, i, people));
            }
        }

        /** Who would be GUILTY, as bits. */
        int guiltyIf(int stance, int walls) {
            int people = court.people();
            int set = 0;
            for (int i = 0; i < court.size; i++) {
                if (sight.isGuilty(court.kinds[i], court.places[i], stance, walls, people)) {
                    set |= bit(i);
                }
            }
            return set;
        }

        /** The stance behind an ACT; NONE: it can't be. */
        int after(int stance, int act) {
            if (stance == NONE) {
                return NONE;
            }
            int place = placeOf(stance);
            int side = sideOf(stance);
            if (act == TO_THE_LEFT) {
                return stanceOf(place, (side + SIDES - 1) % SIDES);
            }
            if (act == TO_THE_RIGHT) {
                return stanceOf(place, (side + 1) % SIDES);
            }
            int ahead = neighbour(place, 2 * side);
            boolean canStep = act == STEP && isOpen(ahead, hall.walls | court.people());
            return canStep ? stanceOf(ahead, side) : NONE;
        }

        /**
         * ROOM as a set of PLACES; 0: there is none. One more who bars a GUILTY one's sight stands in the same WAY,
         * nearer, and is GUILTY himself: so nobody more helps anybody, and each PLACE is judged alone.
         */
        int roomFor(int many) {
            if (guiltyIf(court.stance, hall.walls) != 0) {
                return 0;
            }
            int taken = taken();
            int people = court.people();
            int wanted = many;
            int chosen = 0;
            for (int place = 0; place < PLACES && wanted > 0; place++) {
                if (isOpen(place, taken) && !sight.isGuilty(COURTIER, place, court.stance, hall.walls, people)) {
                    chosen |= bit(place);
                    wanted--;
                }
            }
            return wanted > 0 ? 0 : chosen;
        }

        int bestBrick() {
            int taken = taken();
            int best = NONE;
            int fewest = MOST_COURTIERS + 1;
            for (int place = 0; place < PLACES; place++) {
                int many = Integer.bitCount(guiltyIf(court.stance, hall.walls | bit(place)));
                if (many < fewest && isOpen(place, taken)) {
                    fewest = many;
                    best = place;
                }
            }
            return best;
        }

        /** STOOD: what = 0 how many stances, 1 the PLACE in all of them, 2 the SIDE. */
        int whereHeStood(int what) {
            int barred = hall.walls | court.people();
            int many = 0;
            int surePlace = NONE;
            int sureSide = NONE;
            for (int stance = 0; stance < STANCES; stance++) {
                if (isOpen(placeOf(stance), barred) && isAsTold(stance)) {
                    surePlace = many == 0 || surePlace == placeOf(stance) ? placeOf(stance) : NONE;
                    sureSide = many == 0 || sureSide == sideOf(stance) ? sideOf(stance) : NONE;
                    many++;
                }
            }
            if (what == 0) {
                return many;
            }
            return what == 1 ? surePlace : sureSide;
        }

        private boolean isAsTold(int stance) {
            int people = court.people();
            for (int i = 0; i < court.size; i++) {
                if (court.told[i] != NONE && court.told[i] != seenIf(stance, i, people)) {
                    return false;
                }
            }
            return true;
        }

        /** A WALK: what = 0 the PLACE then, 1 the SIDE, 2 how often somebody was GUILTY, 3 the SEED then. */
        int afterWalk(int times, int firstSeed, int what) {
            int stance = court.stance;
            int seed = firstSeed;
            int guilty = 0;
            for (int i = 0; i < times; i++) {
                seed = nextSeed(seed);
                int next = after(stance, seed / 65536 % ACTS);
                if (next != NONE) {
                    stance = next;
                    guilty += Integer.bitCount(guiltyIf(stance, hall.walls));
                }
            }
            switch (what) {
                case 0:
                    return placeOf(stance);
                case 1:
                    return sideOf(stance);
                case 2:
                    return guilty;
                default:
                    return seed;
            }
        }

        private static int nextSeed(int seed) {
            return (int) ((1103515245L * seed + 12345L) % 2147483648L);
        }
    }

    /** A WAY for the DUKE, searched breadth first; its rows are made once and used again. */
    private static final class Route {
        private static final int UNREACHED = -1, BARRED = -2;

        private final int[] queue = new int[STANCES];
        private final int[] lengths = new int[STANCES];
        private final int[] firsts = new int[STANCES];
        private int queued = 0;

        /**
         * The stance in which he comes to stand on the PLACE first; NONE: there is no WAY. ACTS in their order keep the
         * queue in the order of first ACTS, so of like WAYS the one that begins with the least is found.
         */
        int find(Scene scene, int start, int place) {
            Arrays.fill(lengths, UNREACHED);
            queued = 0;
            reach(start, 0, NONE);
            for (int head = 0; head < queued && head < STANCES; head++) {
                int stance = queue[head];
                if (placeOf(stance) == place) {
                    return stance;
                }
                for (int act = 0; act < ACTS; act++) {
                    int next = scene.after(stance, act);
                    if (isStance(next) && lengths[next] == UNREACHED) {
                        if (scene.guiltyIf(next, scene.hall.walls) != 0) {
                            lengths[next] = BARRED;
                        } else {
                            reach(next, lengthTo(stance) + 1, head == 0 ? act : firstTo(stance));
                        }
                    }
                }
            }
            return NONE;
        }

        int lengthTo(int stance) {
            return isStance(stance) ? lengths[stance] : NONE;
        }

        int firstTo(int stance) {
            return isStance(stance) ? firsts[stance] : NONE;
        }

        private void reach(int stance, int length, int first) {
            if (isStance(stance) && queued < STANCES) {
                lengths[stance] = length;
                firsts[stance] = first;
                queue[queued] = stance;
                queued++;
            }
        }

        private static boolean isStance(int stance) {
            return stance >= 0 && stance < STANCES;
        }
    }
}
