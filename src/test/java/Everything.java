import java.util.ArrayList;
import java.util.List;

/** All that can be asked of an object, in one row: two objects of the same state tell the same. */
final class Everything {
    private final LeftProfile x;
    private final List<Long> row = new ArrayList<>();

    private Everything(LeftProfile x) {
        this.x = x;
    }

    /** The object is used up by it: the IMAGE and who comes behind it are looked at, too. Some 350 calls. */
    static List<Long> of(LeftProfile x) {
        Everything all = new Everything(x);
        all.ask();
        all.put(x.restore());
        all.ask();
        all.putNextCourtier();
        all.put(x.blank());
        all.put(x.digest());
        return all.row;
    }

    private void put(long answer) {
        row.add(answer);
    }

    private void ask() {
        put(x.digest());
        put(x.fault());
        put(x.guilty());
        for (int what = 0; what <= 8; what++) {
            put(x.count(what));
        }
        for (int place = 0; place <= 19; place++) {
            put(x.on(place));
            put(x.way(place, 0));
            put(x.way(place, 1));
        }
        for (int courtier = 0; courtier <= 6; courtier++) {
            for (int what = 0; what <= 5; what++) {
                put(x.about(courtier, what));
            }
        }
        for (int many = 1; many <= 3; many++) {
            put(x.room(many, 0));
            put(x.room(many, many - 1));
        }
        for (int what = 0; what <= 1; what++) {
            put(x.brick(what));
        }
        for (int what = 0; what <= 2; what++) {
            put(x.stood(what));
        }
        for (int what = 0; what <= 3; what++) {
            put(x.walk(60, 5, what));
        }
    }

    /** What somebody left behind would be told of the next one. */
    private void putNextCourtier() {
        for (int place = 0; place <= 19; place++) {
            if (x.on(place) == LeftProfile.NONE) {
                put(x.courtier(3, place));
                put(x.digest());
                return;
            }
        }
    }
}
