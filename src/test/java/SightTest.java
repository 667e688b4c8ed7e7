/** Who SEES what, on each PLACE from each PLACE on each SIDE, by vectors: alone, with WALL and with people about. */
public final class SightTest {
    private static final int MINISTER = 1, SHORT = 2, TALL = 3, BUYER = 4;
    private static final int[] ROWS_ON = {-1, 0, 1, 0};
    private static final int[] COLUMNS_ON = {0, 1, 0, -1};

    public static void main(String[] args) {
        for (int duke = 0; duke < 20; duke++) {
            for (int place = 0; place < 20; place++) {
                if (place != duke) {
                    alone(duke, place);
                    withSomethingAbout(duke, place);
                }
            }
        }
        Due.end();
    }

    private static void withSomethingAbout(int duke, int place) {
        for (int other = 0; other < 20; other++) {
            if (other != duke && other != place) {
                withWall(duke, place, other);
                withPeople(duke, place, other);
            }
        }
    }

    private static void alone(int duke, int place) {
        LeftProfile x = Due.in("...../...../...../.....");
        x.image();
        for (int kind = 0; kind <= 4; kind++) {
            x.courtier(kind, place);
            boolean near = kind != SHORT || distance(duke, place) <= 2;
            looksRound(x, kind, duke, place, near, "alone");
            x.restore();
        }
    }

    private static void withWall(int duke, int place, int wall) {
        LeftProfile x = Due.in(Due.wallOn(wall));
        x.image();
        for (int kind = 0; kind <= 4; kind++) {
            x.courtier(kind, place);
            boolean near = kind != SHORT || distance(duke, place) <= 2;
            looksRound(x, kind, duke, place, near && !isBetween(duke, wall, place), "with wall on " + wall);
            x.restore();
        }
    }

    private static void withPeople(int duke, int place, int other) {
        LeftProfile x = Due.in("...../...../...../.....");
        x.image();
        for (int kinds = 0; kinds < 25; kinds++) {
            int kind = kinds % 5;
            x.courtier(kind, place);
            x.courtier(kinds / 5, other);
            boolean near = kind != SHORT || distance(duke, place) <= 2;
            boolean over = kind == TALL || kind == BUYER || !isBetween(duke, other, place);
            looksRound(x, kind, duke, place, near && over, "with " + kinds / 5 + " on " + other);
            x.restore();
        }
    }

    private static void looksRound(LeftProfile x, int kind, int duke, int place, boolean inSight, String how) {
        for (int side = 0; side < 4; side++) {
            x.duke(duke, side);
            int seen = inSight && isInAWay(duke, place) ? cheek(duke, side, place) : 0;
            int due = kind == MINISTER && seen == 3 ? 0 : seen;
            int guilty = kind != BUYER && (due == 2 || due == 3) ? 1 : 0;
            String what = "kind " + kind + " on " + place + " of the duke on " + duke + ", side " + side + ", " + how;
            Due.is(what + " SEES", x.about(0, 2), due);
            Due.is(what + " is GUILTY", x.about(0, 3), guilty);
            Due.is(what + " is among the GUILTY", x.guilty() & 1, guilty);
        }
    }

    private static int down(int from, int to) {
        return to / 5 - from / 5;
    }

    private static int across(int from, int to) {
        return to % 5 - from % 5;
    }

    private static int distance(int from, int to) {
        return Math.max(Math.abs(down(from, to)), Math.abs(across(from, to)));
    }

    private static boolean isInAWay(int from, int to) {
        int down = down(from, to), across = across(from, to);
        return down == 0 || across == 0 || down == across || down == -across;
    }

    /** On the straight line, and nearer to each end than both ends are. */
    private static boolean isBetween(int from, int middle, int to) {
        return isInAWay(from, to)
                && down(from, middle) * across(from, to) == across(from, middle) * down(from, to)
                && distance(from, middle) < distance(from, to) && distance(middle, to) < distance(from, to);
    }

    private static int cheek(int duke, int side, int place) {
        int ahead = ROWS_ON[side] * down(duke, place) + COLUMNS_ON[side] * across(duke, place);
        int right = (side + 1) % 4;
        int toTheRight = ROWS_ON[right] * down(duke, place) + COLUMNS_ON[right] * across(duke, place);
        if (toTheRight != 0) {
            return toTheRight > 0 ? 2 : 1;
        }
        return ahead > 0 ? 3 : 4;
    }
}
