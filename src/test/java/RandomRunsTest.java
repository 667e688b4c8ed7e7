import java.util.Random;

/** Random runs of calls (by fixed seeds) on the class and on the plain telling of the document, side by side. */
public final class RandomRunsTest {
    private static final int RUNS = 300, CALLS = 512;

    public static void main(String[] args) {
        for (int run = 0; run < RUNS; run++) {
            new RandomRunsTest(run).play();
        }
        Due.end();
    }

    private final int run;
    private final Random random;
    private final double walls;
    private final LeftProfile x = new LeftProfile();
    private final Plain y = new Plain();

    private RandomRunsTest(int run) {
        this.run = run;
        random = new Random(719L * run + 31);
        walls = run % 5 * 0.15;
    }

    private void play() {
        int calls = 0;
        while (calls < CALLS - 30) {
            calls += random.nextInt(60) == 0 || calls == 0 ? writeHall() : anyCall();
        }
        same("digest()", x.digest(), y.digest());
    }

    private void same(String call, long got, long want) {
        Due.is("run " + run + ": " + call, got, want);
    }

    private int writeHall() {
        int letters = random.nextInt(12) == 0 ? 22 + random.nextInt(3) : 23;
        same("blank()", x.blank(), y.blank());
        for (int i = 0; i < letters; i++) {
            int code = i % 6 == 5 ? '/' : random.nextDouble() < walls ? '#' : '.';
            if (random.nextInt(300) == 0) {
                code = random.nextInt(160);
            }
            same("letter(" + code + ")", x.letter(code), y.letter(code));
        }
        same("fault()", x.fault(), y.fault());
        same("hall()", x.hall(), y.hall());
        return letters + 3;
    }

    /** Mostly from low to high, now and then beside it. */
    private int pick(int low, int high) {
        int odd = random.nextInt(40);
        if (odd == 0) {
            return low - 1;
        }
        if (odd == 1) {
            return high + 1;
        }
        if (odd == 2) {
            return random.nextInt();
        }
        return low + random.nextInt(high - low + 1);
    }

    private int courtier() {
        int many = y.count(1);
        return pick(0, many == 0 ? 0 : many - 1);
    }

    private int anyCall() {
        switch (random.nextInt(13)) {
            case 0:
                return letterCall();
            case 1:
                return duke(pick(0, 19), pick(0, 3));
            case 2:
            case 3:
                return courtierCall(pick(0, 4), pick(0, 19));
            case 4:
                return go(courtier(), pick(0, 19));
            case 5:
            case 6:
            case 7:
                return act(pick(0, 2));
            case 8:
                return told(courtier(), pick(-1, 4));
            case 9:
                return imageCall();
            default:
                return asking();
        }
    }

    private int letterCall() {
        if (random.nextInt(4) == 0) {
            same("blank()", x.blank(), y.blank());
            return 1;
        }
        int code = pick(32, 126);
        same("letter(" + code + ")", x.letter(code), y.letter(code));
        same("fault()", x.fault(), y.fault());
        return 2;
    }

    private int duke(int place, int side) {
        same("duke(" + place + ", " + side + ")", x.duke(place, side), y.duke(place, side));
        return 1;
    }

    private int courtierCall(int kind, int place) {
        same("courtier(" + kind + ", " + place + ")", x.courtier(kind, place), y.courtier(kind, place));
        return 1;
    }

    private int go(int courtier, int place) {
        same("go(" + courtier + ", " + place + ")", x.go(courtier, place), y.go(courtier, place));
        return 1;
    }

    private int act(int act) {
        same("act(" + act + ")", x.act(act), y.act(act));
        return 1;
    }

    private int told(int courtier, int what) {
        same("told(" + courtier + ", " + what + ")", x.told(courtier, what), y.told(courtier, what));
        return 1;
    }

    private int imageCall() {
        int which = random.nextInt(8);
        if (which < 3) {
            same("image()", x.image(), y.image());
        } else if (which < 5) {
            same("restore()", x.restore(), y.restore());
        } else {
            same("guilty()", x.guilty(), y.guilty());
        }
        return 1;
    }

    private int asking() {
        int a = courtier();
        int what;
        switch (random.nextInt(9)) {
            case 0:
                what = pick(0, 5);
                same("about(" + a + ", " + what + ")", x.about(a, what), y.about(a, what));
                return 1;
            case 1:
                what = pick(0, 4);
                same("as(" + a + ", " + what + ")", x.as(a, what), y.as(a, what));
                return 1;
            case 2:
                int many = pick(1, 3);
                what = pick(0, 2);
                same("room(" + many + ", " + what + ")", x.room(many, what), y.room(many, what));
                return 1;
            case 3:
                what = pick(0, 1);
                same("brick(" + what + ")", x.brick(what), y.brick(what));
                return 1;
            case 4:
                return way(pick(0, 19), pick(0, 1));
            case 5:
                what = pick(0, 2);
                same("stood(" + what + ")", x.stood(what), y.stood(what));
                return 1;
            case 6:
                return walk(pick(1, 60), random.nextInt(5) == 0 ? random.nextInt() : random.nextInt(1 << 30), pick(0, 3));
            case 7:
                what = pick(0, 8);
                same("count(" + what + ")", x.count(what), y.count(what));
                return 1;
            default:
                what = pick(0, 19);
                same("on(" + what + ")", x.on(what), y.on(what));
                return 1;
        }
    }

    private int way(int place, int what) {
        same("way(" + place + ", " + what + ")", x.way(place, what), y.way(place, what));
        return 1;
    }

    private int walk(int times, int seed, int what) {
        String call = "walk(" + times + ", " + seed + ", " + what + ")";
        same(call, x.walk(times, seed, what), y.walk(times, seed, what));
        return 1;
    }
}
