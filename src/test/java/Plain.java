import java.util.ArrayList;
import java.util.List;

/**
 * The document once more, told in another way than the class does: grids and vectors instead of sets and tables,
 * ways by repeated relaxing instead of a search breadth first. It is slow, and used to compare with only.
 */
final class Plain {
    private static final int NONE = -1, UNKNOWN = -101, OUTSIDE = -102, STATE = -103, FULL = -104;

    private static final class Man {
        int kind, place, left, right, told = NONE;

        Man(int kind, int place) {
            this.kind = kind;
            this.place = place;
        }

        Man copy() {
            Man m = new Man(kind, place);
            m.left = left;
            m.right = right;
            m.told = told;
            return m;
        }
    }

    private String page = "";
    private String hall = null;
    private int duke = NONE, side = NONE, acts = 0, halls = 0;
    private List<Man> men = new ArrayList<>();

    private List<Man> keptMen = null;
    private int keptDuke, keptSide, keptActs;

    // ---- the hall

    int letter(int code) {
        if (code < 32 || code > 126) {
            return OUTSIDE;
        }
        if (page.length() + 1 > 24) {
            return FULL;
        }
        page += (char) code;
        return page.length();
    }

    int blank() {
        int n = page.length();
        page = "";
        return n;
    }

    int fault() {
        for (int n = page.length(); n >= 0; n--) {
            if (isStart(page.substring(0, n))) {
                return n;
            }
        }
        throw new IllegalStateException();
    }

    private static boolean isStart(String s) {
        String whole = "...../...../...../.....";
        return s.length() <= 23 && s.replace('#', '.').equals(whole.substring(0, s.length()));
    }

    int hall() {
        if (!page.matches("[.#]{5}/[.#]{5}/[.#]{5}/[.#]{5}")) {
            return STATE;
        }
        hall = page.replace("/", "");
        page = "";
        duke = NONE;
        side = NONE;
        men = new ArrayList<>();
        keptMen = null;
        halls++;
        return floors();
    }

    private int floors() {
        return hall == null ? 0 : hall.replace("#", "").length();
    }

    int on(int place) {
        if (place < 0 || place > 19) {
            return UNKNOWN;
        }
        if (hall == null) {
            return STATE;
        }
        if (hall.charAt(place) == '#') {
            return -2;
        }
        if (place == duke) {
            return 9;
        }
        for (Man m : men) {
            if (m.place == place) {
                return men.indexOf(m);
            }
        }
        return NONE;
    }

    // ---- people

    int duke(int place, int to) {
        if (place < 0 || place > 19) {
            return UNKNOWN;
        }
        if (to < 0 || to > 3) {
            return OUTSIDE;
        }
        if (hall == null || on(place) != NONE && on(place) != 9) {
            return STATE;
        }
        duke = place;
        side = to;
        return 4 * place + to;
    }

    int courtier(int kind, int place) {
        if (place < 0 || place > 19) {
            return UNKNOWN;
        }
        if (kind < 0 || kind > 4) {
            return OUTSIDE;
        }
        if (hall == null || on(place) != NONE) {
            return STATE;
        }
        if (men.size() == 6) {
            return FULL;
        }
        men.add(new Man(kind, place));
        return men.size() - 1;
    }

    private static int sees(Man m, int dukeAt, int looks, String floor, List<Man> all) {
        int[][] ahead = {{-1, 0}, {0, 1}, {1, 0}, {0, -1}};
        int down = m.place / 5 - dukeAt / 5, across = m.place % 5 - dukeAt % 5;
        int far = Math.max(Math.abs(down), Math.abs(across));
        boolean inWay = far > 0 && (down == 0 || across == 0 || Math.abs(down) == Math.abs(across));
        if (!inWay || m.kind == 2 && far > 2) {
            return 0;
        }
        int unitDown = Integer.signum(down), unitAcross = Integer.signum(across);
        int row = m.place / 5, column = m.place % 5;
        for (int n = 1; n < far; n++) {
            row -= unitDown;
            column -= unitAcross;
            int at = 5 * row + column;
            boolean somebody = all.stream().anyMatch(o -> o.place == at);
            if (floor.charAt(at) == '#' || somebody && m.kind < 3) {
                return 0;
            }
        }
        int[] front = ahead[looks], hand = ahead[(looks + 1) % 4];
        int toTheRight = unitDown * hand[0] + unitAcross * hand[1];
        int toTheFront = unitDown * front[0] + unitAcross * front[1];
        if (toTheRight != 0) {
            return toTheRight > 0 ? 2 : 1;
        }
        if (toTheFront < 0) {
            return 4;
        }
        return m.kind == 1 ? 0 : 3;
    }

    private static int guiltyBits(int dukeAt, int looks, String floor, List<Man> all) {
        int bits = 0;
        for (int i = 0; dukeAt != NONE && i < all.size(); i++) {
            int seen = sees(all.get(i), dukeAt, looks, floor, all);
            if ((seen == 2 || seen == 3) && all.get(i).kind != 4) {
                bits += 1 << i;
            }
        }
        return bits;
    }

    private static int many(int bits) {
        return Integer.toBinaryString(bits).replace("0", "").length();
    }

    int about(int courtier, int what) {
        if (courtier < 0 || courtier >= men.size()) {
            return UNKNOWN;
        }
        if (what < 0 || what > 5) {
            return OUTSIDE;
        }
        Man m = men.get(courtier);
        int seen = duke == NONE ? 0 : sees(m, duke, side, hall, men);
        int isGuilty = (guilty() >> courtier) & 1;
        return new int[] {m.kind, m.place, seen, isGuilty, m.left, m.right}[what];
    }

    int as(int courtier, int kind) {
        if (courtier < 0 || courtier >= men.size()) {
            return UNKNOWN;
        }
        if (kind < 0 || kind > 4) {
            return OUTSIDE;
        }
        String[] kinds = {"0", "01", "02", "03", "034"};
        return kinds[men.get(courtier).kind].contains("" + kind) ? courtier : NONE;
    }

    int go(int courtier, int place) {
        if (courtier < 0 || courtier >= men.size() || place < 0 || place > 19) {
            return UNKNOWN;
        }
        if (on(place) != NONE) {
            return STATE;
        }
        int before = men.get(courtier).place;
        men.get(courtier).place = place;
        return before;
    }

    /** The DUKE's PLACE and SIDE behind an ACT, or nothing. */
    private int[] behind(int at, int looks, int act) {
        if (act < 2) {
            return new int[] {at, (looks + (act == 0 ? 3 : 1)) % 4};
        }
        int row = at / 5 + (looks == 0 ? -1 : looks == 2 ? 1 : 0);
        int column = at % 5 + (looks == 1 ? 1 : looks == 3 ? -1 : 0);
        if (row < 0 || row > 3 || column < 0 || column > 4 || !isStanding(5 * row + column)) {
            return null;
        }
        return new int[] {5 * row + column, looks};
    }

    private boolean isStanding(int place) {
        return hall.charAt(place) == '.' && men.stream().noneMatch(m -> m.place == place);
    }

    int act(int act) {
        if (act < 0 || act > 2) {
            return OUTSIDE;
        }
        int[] next = duke == NONE ? null : behind(duke, side, act);
        if (next == null) {
            return STATE;
        }
        duke = next[0];
        side = next[1];
        acts++;
        for (Man m : men) {
            int seen = sees(m, duke, side, hall, men);
            m.left += seen == 1 || seen == 3 ? 1 : 0;
            m.right += seen == 2 || seen == 3 ? 1 : 0;
        }
        return many(guilty());
    }

    int guilty() {
        return guiltyBits(duke, side, hall, men);
    }

    // ---- what would be

    int room(int many, int i) {
        if (many < 1 || many > 3 || i < 0 || i > 2) {
            return OUTSIDE;
        }
        if (duke == NONE) {
            return STATE;
        }
        // Numbers in the base of 20 with rising digits are the sets by numbers.
        for (int n = 0; n < Math.pow(20, many); n++) {
            int[] set = new int[many];
            for (int k = many - 1, rest = n; k >= 0; k--, rest /= 20) {
                set[k] = rest % 20;
            }
            if (isRoom(set)) {
                return i < many ? set[i] : NONE;
            }
        }
        return NONE;
    }

    private boolean isRoom(int[] set) {
        List<Man> all = new ArrayList<>(men);
        for (int k = 0; k < set.length; k++) {
            if (on(set[k]) != NONE || k > 0 && set[k] <= set[k - 1]) {
                return false;
            }
            all.add(new Man(0, set[k]));
        }
        return guiltyBits(duke, side, hall, all) == 0;
    }

    int brick(int what) {
        if (what < 0 || what > 1) {
            return OUTSIDE;
        }
        if (duke == NONE) {
            return STATE;
        }
        for (int bearable = 0; bearable <= 6; bearable++) {
            for (int place = 0; place < 20; place++) {
                if (on(place) == NONE) {
                    String bricked = hall.substring(0, place) + "#" + hall.substring(place + 1);
                    if (many(guiltyBits(duke, side, bricked, men)) == bearable) {
                        return what == 0 ? place : bearable;
                    }
                }
            }
        }
        return NONE;
    }

    int way(int place, int what) {
        if (place < 0 || place > 19) {
            return UNKNOWN;
        }
        if (what < 0 || what > 1) {
            return OUTSIDE;
        }
        if (duke == NONE) {
            return STATE;
        }
        int[] toGo = toGo(place);
        int from = 4 * duke + side;
        if (toGo[from] >= 1000) {
            return NONE;
        }
        if (what == 0) {
            return toGo[from];
        }
        for (int act = 0; act < 3 && toGo[from] > 0; act++) {
            int[] next = innocently(duke, side, act);
            if (next != null && toGo[4 * next[0] + next[1]] == toGo[from] - 1) {
                return act;
            }
        }
        return NONE;
    }

    private int[] innocently(int at, int looks, int act) {
        int[] next = behind(at, looks, act);
        return next == null || guiltyBits(next[0], next[1], hall, men) != 0 ? null : next;
    }

    private int[] toGo(int place) {
        int[] toGo = new int[80];
        for (int s = 0; s < 80; s++) {
            toGo[s] = s / 4 == place ? 0 : 1000;
        }
        for (boolean changed = true; changed;) {
            changed = false;
            for (int s = 0; s < 80; s++) {
                for (int act = 0; act < 3; act++) {
                    int[] next = isStanding(s / 4) ? innocently(s / 4, s % 4, act) : null;
                    if (next != null && toGo[4 * next[0] + next[1]] + 1 < toGo[s]) {
                        toGo[s] = toGo[4 * next[0] + next[1]] + 1;
                        changed = true;
                    }
                }
            }
        }
        return toGo;
    }

    // ---- told back

    int told(int courtier, int what) {
        if (courtier < 0 || courtier >= men.size()) {
            return UNKNOWN;
        }
        if (what < -1 || what > 4) {
            return OUTSIDE;
        }
        int before = men.get(courtier).told;
        men.get(courtier).told = what;
        return before;
    }

    int stood(int what) {
        if (what < 0 || what > 2) {
            return OUTSIDE;
        }
        if (hall == null) {
            return STATE;
        }
        List<int[]> pairs = new ArrayList<>();
        for (int s = 0; s < 80; s++) {
            int at = s / 4, looks = s % 4;
            if (isStanding(at)
                    && men.stream().allMatch(m -> m.told == NONE || m.told == sees(m, at, looks, hall, men))) {
                pairs.add(new int[] {at, looks});
            }
        }
        if (what == 0) {
            return pairs.size();
        }
        long kinds = pairs.stream().mapToInt(p -> p[what - 1]).distinct().count();
        return kinds == 1 ? pairs.get(0)[what - 1] : NONE;
    }

    int walk(int times, int seed, int what) {
        if (times < 1 || times > 60 || seed < 0 || what < 0 || what > 3) {
            return OUTSIDE;
        }
        if (duke == NONE) {
            return STATE;
        }
        int[] at = {duke, side};
        long s = seed;
        int often = 0;
        for (int n = 0; n < times; n++) {
            s = (1103515245L * s + 12345L) & 0x7fffffffL;
            int[] next = behind(at[0], at[1], (int) ((s >> 16) % 3));
            if (next != null) {
                at = next;
                often += many(guiltyBits(at[0], at[1], hall, men));
            }
        }
        return new int[] {at[0], at[1], often, (int) s}[what];
    }

    // ---- what is told of all

    private static List<Man> copy(List<Man> from) {
        List<Man> to = new ArrayList<>();
        from.forEach(m -> to.add(m.copy()));
        return to;
    }

    int image() {
        if (hall == null) {
            return STATE;
        }
        keptMen = copy(men);
        keptDuke = duke;
        keptSide = side;
        keptActs = acts;
        return men.size();
    }

    int restore() {
        if (keptMen == null) {
            return STATE;
        }
        men = copy(keptMen);
        duke = keptDuke;
        side = keptSide;
        acts = keptActs;
        return men.size();
    }

    int count(int what) {
        if (what < 0 || what > 8) {
            return OUTSIDE;
        }
        int told = (int) men.stream().filter(m -> m.told != NONE).count();
        return new int[] {floors(), men.size(), duke, side, many(guilty()), told, acts, page.length(), halls}[what];
    }

    long digest() {
        List<Integer> numbers = new ArrayList<>();
        for (int place = 0; hall != null && place < 20; place++) {
            numbers.add(on(place));
        }
        for (int i = 0; i < men.size(); i++) {
            for (int what = 0; what < 6; what++) {
                numbers.add(about(i, what));
            }
            numbers.add(men.get(i).told);
        }
        if (duke != NONE) {
            numbers.addAll(List.of(room(2, 0), room(2, 1), brick(0), brick(1), way(0, 0), way(19, 0)));
        }
        if (hall != null) {
            numbers.addAll(List.of(stood(0), stood(1), stood(2)));
        }
        page.chars().forEach(numbers::add);
        for (int what = 0; what < 9; what++) {
            numbers.add(count(what));
        }
        long h = 719;
        for (int n : numbers) {
            h = 31 * h + n;
        }
        return h;
    }
}
