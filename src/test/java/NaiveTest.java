import java.util.Random;

/** Runs of calls by fixed seeds, each answer beside the one of a naive reading of the document (all promises). */
public final class NaiveTest {
    private static final Due DUE = new Due("NaiveTest");
    private static final int RUNS = 1500;
    private static final int CALLS = 512;
    private static final int[] ODD_ONES = {-1, 8, 24, 31, 48, 61, 99, 100, 101, -2, -128, -32768, 65536,
        Integer.MAX_VALUE, Integer.MIN_VALUE, Integer.MIN_VALUE + 1};

    private final Random random;
    private final BellThatIsADoor real = new BellThatIsADoor();
    private final Naive naive = new Naive();

    private NaiveTest(long seed) {
        random = new Random(seed);
    }

    public static void main(String[] args) {
        for (int run = 0; run < RUNS; run++) {
            NaiveTest one = new NaiveTest(run);
            for (int call = 0; call < CALLS; call++) {
                one.call(run);
            }
        }
        DUE.end();
    }

    /** Mostly one of the numbers from the least to the most; now and then one that may be outside. */
    private int one(int least, int most) {
        if (random.nextInt(40) == 0) {
            return ODD_ONES[random.nextInt(ODD_ONES.length)];
        }
        if (random.nextInt(40) == 0) {
            return random.nextBoolean() ? least - 1 : most + 1;
        }
        return least + random.nextInt(most - least + 1);
    }

    private int aBell() {
        return one(0, Math.max(0, (int) naive.count(0) - 1));
    }

    private void is(int run, String call, long got, long want) {
        DUE.is("run " + run + ": " + call, got, want);
    }

    private void call(int run) {
        switch (random.nextInt(8)) {
            case 0:
                callAsTold(run);
                break;
            case 1:
                callAtHome(run);
                break;
            case 2:
                callErrands(run);
                break;
            case 3:
                callRang(run);
                break;
            case 4:
                callFeet(run);
                break;
            case 5:
                callLists(run);
                break;
            case 6:
                callImage(run);
                break;
            default:
                callShelves(run);
        }
    }

    private void callAsTold(int run) {
        int b = aBell();
        int place = one(0, 30);
        int d = one(0, 7);
        switch (random.nextInt(7)) {
            case 0:
                tellText(run);
                break;
            case 1:
                int what = one(0, 7);
                is(run, "bell(" + b + ", " + what + ")", real.bell(b, what), naive.bell(b, what));
                break;
            case 2:
                is(run, "comes(" + d + ", " + place + ")", real.comes(d, place), naive.comes(d, place));
                break;
            case 3:
                int n = random.nextInt(4) > 0 ? 1 : one(1, 99);
                is(run, "hours(" + n + ")", real.hours(n), naive.hours(n));
                break;
            case 4:
                is(run, "moves(" + b + ", " + place + ")", real.moves(b, place), naive.moves(b, place));
                break;
            default:
                is(run, "rings(" + b + ")", real.rings(b), naive.rings(b));
        }
    }

    private void tellText(int run) {
        StringBuilder text = new StringBuilder();
        int statements = random.nextInt(7) + (random.nextInt(10) == 0 ? 20 : 0);
        for (int i = 0; i < statements; i++) {
            text.append(aStatement());
        }
        if (random.nextInt(3) == 0 && text.length() > 0) {
            text.setCharAt(random.nextInt(text.length()), "brhp;0123456789 x".charAt(random.nextInt(17)));
        }
        if (random.nextInt(6) == 0) {
            text.setLength(random.nextInt(text.length() + 1));
        }
        text.setLength(Math.min(100, text.length()));
        int d = one(0, 7);
        is(run, "row", real.row(d, 0, text.length()), naive.row(d, 0, text.length()));
        for (int i = 0; i < text.length(); i++) {
            is(run, "put", real.put(d, i, text.charAt(i)), naive.put(d, i, text.charAt(i)));
        }
        is(run, "marsh of " + text, real.marsh(d), naive.marsh(d));
    }

    private String aStatement() {
        int digit = random.nextInt(random.nextInt(4) == 0 ? 10 : 3);
        int two = random.nextInt(random.nextInt(8) == 0 ? 100 : 31);
        switch (random.nextInt(5)) {
            case 0:
                int kind = random.nextInt(20) == 0 ? 8 : random.nextInt(8);
                return String.format("b%d%d%02d;", kind, random.nextInt(10), two);
            case 1:
                return String.format("h%02d;", random.nextInt(3) == 0 ? 99 : two);
            case 2:
                return String.format("p%d%02d;", digit, two);
            default:
                return "r" + digit + ";";
        }
    }

    private void callAtHome(int run) {
        int b = aBell();
        switch (random.nextInt(7)) {
            case 0:
                int hour = one(0, 23);
                is(run, "home(" + hour + ")", real.home(hour), naive.home(hour));
                break;
            case 1:
                is(run, "hoursOf(" + b + ")", real.hoursOf(b), naive.hoursOf(b));
                break;
            case 2:
                int n = one(0, 60);
                int what = one(0, 1);
                is(run, "behind(" + b + ", " + n + ", " + what + ")", real.behind(b, n, what), naive.behind(b, n, what));
                break;
            case 3:
                is(run, "soonest(" + b + ")", real.soonest(b), naive.soonest(b));
                break;
            case 4:
                int h = one(1, 48);
                is(run, "fewest(" + b + ", " + h + ")", real.fewest(b, h), naive.fewest(b, h));
                break;
            case 5:
                is(run, "never()", real.never(), naive.never());
                break;
            default:
                is(run, "first()", real.first(), naive.first());
        }
    }

    private void callErrands(int run) {
        int what = one(0, 1);
        switch (random.nextInt(8)) {
            case 0:
                is(run, "forAll()", real.forAll(), naive.forAll());
                break;
            case 1:
                is(run, "busiest(" + what + ")", real.busiest(what), naive.busiest(what));
                break;
            case 2:
                is(run, "alone()", real.alone(), naive.alone());
                break;
            default:
                int place = one(0, 30);
                int set = one(1, Math.max(1, (1 << (int) naive.count(0)) - 1));
                int i = one(-1, 5);
                is(run, "errands(" + place + ", " + set + ", " + i + ")",
                    real.errands(place, set, i), naive.errands(place, set, i));
        }
    }

    private void callRang(int run) {
        int d = one(0, 7);
        int b = aBell();
        int what = one(0, 1);
        if (random.nextInt(3) == 0) {
            is(run, "oneDoor(" + what + ")", real.oneDoor(what), naive.oneDoor(what));
            return;
        }
        if (random.nextInt(4) > 0) {
            tellHeard(run, d, b);
        }
        is(run, "whatRang(" + d + ", " + b + ", " + what + ")", real.whatRang(d, b, what), naive.whatRang(d, b, what));
        is(run, "tell(" + d + ", " + b + ", " + what + ")", real.tell(d, b, what), naive.tell(d, b, what));
    }

    /** A ROW of what would be heard from now on, with some of it left out and now and then one wrong. */
    private void tellHeard(int run, int d, int b) {
        int sort = random.nextInt(3);
        int n = random.nextInt(6) + (random.nextInt(8) == 0 ? 45 : 0);
        is(run, "row", real.row(d, sort, n), naive.row(d, sort, n));
        for (int i = 0; i < n; i++) {
            int heard = (int) naive.behind(b, i + 1, 1);
            int v = random.nextInt(3) == 0 ? new int[] {-128, -32768, Integer.MIN_VALUE}[sort] : heard;
            v = random.nextInt(20) == 0 ? random.nextInt(126) : v;
            is(run, "put", real.put(d, i, v), naive.put(d, i, v));
        }
    }

    private void callFeet(int run) {
        int what = one(0, 1);
        int b = aBell();
        switch (random.nextInt(5)) {
            case 0:
                int steps = one(0, 99);
                int k = one(1, 9);
                is(run, "feet(" + steps + ", " + k + ", " + what + ")",
                    real.feet(steps, k, what), naive.feet(steps, k, what));
                break;
            case 1:
                int n = one(0, 8);
                int t = one(2, 20);
                is(run, "odds(" + b + ", " + n + ", " + t + ", " + what + ")",
                    real.odds(b, n, t, what), naive.odds(b, n, t, what));
                break;
            case 2:
                is(run, "run(" + what + ")", real.run(what), naive.run(what));
                break;
            case 3:
                is(run, "mean(" + what + ")", real.mean(what), naive.mean(what));
                break;
            default:
                int place = one(0, 30);
                is(run, "nearest(" + place + ", " + what + ")", real.nearest(place, what), naive.nearest(place, what));
        }
    }

    private void callLists(int run) {
        int d = one(0, 7);
        if (random.nextInt(2) == 0) {
            int n = one(1, 20);
            int z = random.nextInt();
            int what = one(0, 1);
            is(run, "days(" + n + ", " + z + ", " + what + ")", real.days(n, z, what), naive.days(n, z, what));
            return;
        }
        int sort = random.nextInt(3);
        int n = random.nextInt(5);
        is(run, "row", real.row(d, sort, n), naive.row(d, sort, n));
        boolean many = random.nextBoolean();
        for (int i = 0; i < n; i++) {
            int hour = (int) ((naive.count(1) + i) % 24);
            int v = many ? Integer.bitCount((int) naive.home(hour)) : aBell();
            v = random.nextInt(5) == 0 ? new int[] {-128, -32768, Integer.MIN_VALUE}[random.nextInt(3)] : v;
            is(run, "put", real.put(d, i, v), naive.put(d, i, v));
        }
        is(run, "forged(" + d + ")", real.forged(d), naive.forged(d));
        is(run, "judge(" + d + ")", real.judge(d), naive.judge(d));
    }

    private void callImage(int run) {
        switch (random.nextInt(12)) {
            case 0:
                is(run, "image()", real.image(), naive.image());
                break;
            case 1:
                is(run, "restore()", real.restore(), naive.restore());
                break;
            default:
                int what = one(0, 5);
                is(run, "count(" + what + ")", real.count(what), naive.count(what));
        }
    }

    private void callShelves(int run) {
        int d = one(0, 7);
        int i = one(0, 9);
        int e = one(0, 7);
        int j = one(0, 9);
        switch (random.nextInt(8)) {
            case 0:
                int sort = one(0, 2);
                int n = random.nextInt(4) == 0 ? one(0, 100) : one(0, 9);
                is(run, "row(" + d + ", " + sort + ", " + n + ")", real.row(d, sort, n), naive.row(d, sort, n));
                break;
            case 1:
                int v = random.nextBoolean() ? random.nextInt() : random.nextInt(400) - 200;
                is(run, "put(" + d + ", " + i + ", " + v + ")", real.put(d, i, v), naive.put(d, i, v));
                break;
            case 2:
                is(run, "element(" + d + ", " + i + ")", elementOrThrown(d, i), naive.element(d, i));
                break;
            case 3:
                int many = one(0, 9);
                is(run, "copy(" + d + ", " + i + ", " + e + ", " + j + ", " + many + ")",
                    real.copy(d, i, e, j, many), naive.copy(d, i, e, j, many));
                break;
            case 4:
                is(run, "cost(" + d + ")", real.cost(d), naive.cost(d));
                break;
            case 5:
                is(run, "toss(" + d + ")", real.toss(d), naive.toss(d));
                break;
            default:
                int what = one(0, 1);
                int k = one(0, 7);
                int figure = one(0, 9);
                is(run, "keep(" + d + ", " + what + ", " + k + ", " + figure + ")",
                    real.keep(d, what, k, figure), naive.keep(d, what, k, figure));
        }
    }

    private long elementOrThrown(int d, int i) {
        switch (Due.thrownBy(real, d, i)) {
            case 1:
                return Naive.THROWS_ARGUMENT;
            case 2:
                return Naive.THROWS_STATE;
            default:
                return real.element(d, i);
        }
    }
}
