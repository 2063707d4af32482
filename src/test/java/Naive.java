import java.util.ArrayList;
import java.util.List;

/** The document once more, by trying everything: slow, and unlike the class wherever it can be. */
final class Naive {
    static final long THROWS_ARGUMENT = Long.MIN_VALUE;
    static final long THROWS_STATE = Long.MIN_VALUE + 1;

    /** A BELL that has come. */
    private static final class One {
        int kind;
        int figure;
        int place;
        int rung;
        int opened;

        One(int kind, int figure, int place) {
            this.kind = kind;
            this.figure = figure;
            this.place = place;
        }

        One again() {
            One other = new One(kind, figure, place);
            other.rung = rung;
            other.opened = opened;
            return other;
        }
    }

    private List<One> bells = new ArrayList<>();
    private long clock = 8;
    private List<One> imageBells;
    private long imageClock;
    private final Object[] shelves = new Object[8];
    private final int[] sorts = new int[8];

    // ---- kinds

    static boolean home(int kind, int figure, long at) {
        int hour = (int) (at % 24);
        switch (kind) {
            case 0:
                for (int i = 0; i < 12; i++) {
                    if ((figure + i) % 24 == hour) {
                        return true;
                    }
                }
                return false;
            case 1:
                return hour != 12 && hour != 13 && home(0, figure, hour);
            case 2:
                return true;
            case 3:
                return !home(1, figure, hour);
            case 4:
                return hour % 2 == 0 && home(1, figure, hour);
            case 5:
                return false;
            case 6:
                return hour % (figure + 1) == 0;
            default:
                return hour == 0 || home(3, figure, hour);
        }
    }

    static int wants(int kind, int figure) {
        int cough = figure / 3 + 2;
        return new int[] {1, 2, 1, cough, 2, 2, figure / 2 + 1, 2 * cough}[kind];
    }

    static int steps(int kind, int figure) {
        int door = figure + 1 + 2;
        return new int[] {figure + 1, door, 0, 2 * door, door / 2, door / 2, 9 - figure, 2 * door + 1}[kind];
    }

    static int price(int kind, int figure) {
        int door = 3 + figure;
        return new int[] {3, door, 1, 2 * door, door + 4, (door + 4) / 2, 1, 2 * door + figure}[kind];
    }

    private static int ring(One bell, long at) {
        if (!home(bell.kind, bell.figure, at)) {
            bell.rung = 0;
            return 0;
        }
        bell.rung++;
        int wants = wants(bell.kind, bell.figure);
        int steps = steps(bell.kind, bell.figure);
        if (bell.rung < wants) {
            return steps * bell.rung / wants;
        }
        bell.rung = 0;
        bell.opened = bell.opened == 99 ? 99 : bell.opened + 1;
        return 100 + steps;
    }

    private List<One> again() {
        return again(bells);
    }

    private static List<One> again(List<One> of) {
        List<One> all = new ArrayList<>();
        for (One one : of) {
            all.add(one.again());
        }
        return all;
    }

    private boolean no(int b) {
        return b < 0 || b >= bells.size();
    }

    private static boolean out(int value, int least, int most) {
        return value < least || value > most;
    }

    // ---- the marsh as told

    private static boolean isMarsh(String text) {
        return text.matches("(b[0-9]{4};|r[0-9];|h[0-9]{2};|p[0-9]{3};)+");
    }

    private static boolean canGoOn(String begun) {
        for (String rest : new String[] {"", ";", "0;", "00;", "000;", "0000;", "b0000;"}) {
            if (isMarsh(begun + rest)) {
                return true;
            }
        }
        return false;
    }

    long marsh(int d) {
        long why = whyNoRow(d);
        if (why != 0) {
            return why;
        }
        if (sorts[d] != 0) {
            return -12;
        }
        StringBuilder signs = new StringBuilder();
        for (int v : (int[]) shelves[d]) {
            signs.append((char) (v & 0xff));
        }
        String text = signs.toString();
        if (!isMarsh(text)) {
            int good = 0;
            while (good < text.length() && canGoOn(text.substring(0, good + 1))) {
                good++;
            }
            return -1000 - good;
        }
        List<One> bellsAhead = again();
        long clockAhead = clock;
        int at = 0;
        String[] statements = text.split(";");
        for (String one : statements) {
            if (!done(one)) {
                bells = bellsAhead;
                clock = clockAhead;
                return -2000 - at;
            }
            at += one.length() + 1;
        }
        return statements.length;
    }

    private boolean done(String one) {
        int number = Integer.parseInt(one.substring(1));
        switch (one.charAt(0)) {
            case 'b':
                if (number / 1000 > 7 || number % 100 > 30 || bells.size() == 6) {
                    return false;
                }
                bells.add(new One(number / 1000, number / 100 % 10, number % 100));
                return true;
            case 'r':
                return rings(number) != -1;
            case 'h':
                return hours(number) >= 0;
            default:
                return moves(number / 100, number % 100) != -1;
        }
    }

    long bell(int b, int what) {
        if (no(b) || out(what, 0, 7)) {
            return -1;
        }
        One one = bells.get(b);
        int[] all = {one.kind, one.figure, one.place, one.rung, one.opened, wants(one.kind, one.figure),
            steps(one.kind, one.figure), home(one.kind, one.figure, clock) ? 1 : 0};
        return all[what];
    }

    long comes(int d, int place) {
        if (out(d, 0, 7) || out(place, 0, 30)) {
            return -1;
        }
        long why = whyNoBell(d);
        if (why != 0) {
            return why;
        }
        if (bells.size() == 6) {
            return -2;
        }
        int[] held = ((int[][]) shelves[d])[0];
        bells.add(new One(held[0], held[1], place));
        return bells.size() - 1;
    }

    long rings(int b) {
        return no(b) ? -1 : ring(bells.get(b), clock);
    }

    long hours(int n) {
        if (out(n, 1, 99)) {
            return -1;
        }
        if (clock + n >= 24000) {
            return -3;
        }
        clock += n;
        return clock % 24;
    }

    long moves(int b, int place) {
        if (no(b) || out(place, 0, 30)) {
            return -1;
        }
        int was = bells.get(b).place;
        bells.get(b).place = place;
        return was;
    }

    // ---- who is at home

    long home(int hour) {
        return out(hour, 0, 23) ? -1 : homeBits(hour);
    }

    private int homeBits(long at) {
        int bits = 0;
        for (int b = 0; b < bells.size(); b++) {
            if (home(bells.get(b).kind, bells.get(b).figure, at)) {
                bits += 1 << b;
            }
        }
        return bits;
    }

    long hoursOf(int b) {
        if (no(b)) {
            return -1;
        }
        long bits = 0;
        for (int h = 23; h >= 0; h--) {
            bits = 2 * bits + (home(bells.get(b).kind, bells.get(b).figure, h) ? 1 : 0);
        }
        return bits;
    }

    long behind(int b, int n, int what) {
        if (no(b) || out(n, 0, 60) || out(what, 0, 1)) {
            return -1;
        }
        One one = bells.get(b).again();
        long last = -4;
        int opened = 0;
        for (int i = 0; i < n; i++) {
            one.opened = 0;
            last = ring(one, clock + i);
            opened += one.opened;
        }
        return what == 0 ? opened : last;
    }

    /** The fewest rings by which it can open in the last of so many HOURS, by any choice; 1000 if by none. */
    private int fewestInTheLastOf(One bell, int many) {
        int[] fewestBy = new int[11];
        java.util.Arrays.fill(fewestBy, 1000);
        fewestBy[bell.rung] = 0;
        for (int i = 0; i < many; i++) {
            int[] next = fewestBy.clone();
            int opens = 1000;
            for (int rung = 0; rung < 11; rung++) {
                One trial = bell.again();
                trial.rung = rung;
                if (fewestBy[rung] < 1000) {
                    if (ring(trial, clock + i) >= 100) {
                        opens = Math.min(opens, fewestBy[rung] + 1);
                    } else {
                        next[trial.rung] = Math.min(next[trial.rung], fewestBy[rung] + 1);
                    }
                }
            }
            if (i == many - 1) {
                return opens;
            }
            fewestBy = next;
        }
        return 1000;
    }

    long soonest(int b) {
        if (no(b)) {
            return -1;
        }
        for (int i = 0; i <= 47; i++) {
            if (fewestInTheLastOf(bells.get(b), i + 1) < 1000) {
                return i;
            }
        }
        return -4;
    }

    long fewest(int b, int h) {
        if (no(b) || out(h, 1, 48)) {
            return -1;
        }
        int fewest = 1000;
        for (int many = 1; many <= h; many++) {
            fewest = Math.min(fewest, fewestInTheLastOf(bells.get(b), many));
        }
        return fewest == 1000 ? -4 : fewest;
    }

    long never() {
        long bits = 0;
        for (int b = 0; b < bells.size(); b++) {
            bits += soonest(b) == -4 ? 1 << b : 0;
        }
        return bits;
    }

    long first() {
        for (int i = 0; i < 48; i++) {
            for (int b = 0; b < bells.size(); b++) {
                if (soonest(b) == i) {
                    return b;
                }
            }
        }
        return -4;
    }

    // ---- errands, hours

    private long doneBehind(int from, List<Integer> order) {
        int place = from;
        long gone = 0;
        for (int b : order) {
            One one = bells.get(b).again();
            int places = Math.abs(one.place - place);
            gone += places / 10 + (places % 10 == 0 ? 0 : 1);
            boolean open = false;
            while (!open) {
                if (gone >= 200) {
                    return 1000;
                }
                open = ring(one, clock + gone) >= 100;
                gone++;
            }
            place = one.place;
        }
        return gone;
    }

    /** All orders, the least by numbers first. */
    private static void orders(List<Integer> begun, int set, List<List<Integer>> all) {
        if (set == 0) {
            all.add(new ArrayList<>(begun));
        }
        for (int b = 0; b < 6; b++) {
            if ((set >> b) % 2 == 1) {
                begun.add(b);
                orders(begun, set - (1 << b), all);
                begun.remove(begun.size() - 1);
            }
        }
    }

    long errands(int place, int set, int i) {
        if (out(place, 0, 30) || out(set, 1, (1 << bells.size()) - 1) || i < -1) {
            return -1;
        }
        List<List<Integer>> all = new ArrayList<>();
        orders(new ArrayList<>(), set, all);
        long fewest = 1000;
        List<Integer> best = null;
        for (List<Integer> order : all) {
            long hours = doneBehind(place, order);
            if (hours < fewest) {
                fewest = hours;
                best = order;
            }
        }
        if (best == null) {
            return -4;
        }
        if (i == -1) {
            return fewest;
        }
        return i < best.size() ? best.get(i) : -4;
    }

    long forAll() {
        if (bells.isEmpty()) {
            return 0;
        }
        int all = (1 << bells.size()) - 1;
        long best = -4;
        for (int a = 0; a < 24; a++) {
            for (int b = 0; b < 24; b++) {
                for (int c = 0; c < 24; c++) {
                    long bits = 1L << a | 1L << b | 1L << c;
                    boolean covers = (homeBits(a) | homeBits(b) | homeBits(c)) == all;
                    if (covers && (best < 0 || isLess(bits, best))) {
                        best = bits;
                    }
                }
            }
        }
        return best;
    }

    private static boolean isLess(long bits, long than) {
        int many = Long.bitCount(bits) - Long.bitCount(than);
        return many < 0 || many == 0 && bits < than;
    }

    long busiest(int what) {
        if (out(what, 0, 1)) {
            return -1;
        }
        for (int many = bells.size(); many > 0; many--) {
            for (int h = 0; h < 24; h++) {
                if (Integer.bitCount(homeBits(h)) == many) {
                    return what == 0 ? h : many;
                }
            }
        }
        return 0;
    }

    long alone() {
        int bits = 0;
        for (int b = 0; b < bells.size(); b++) {
            for (int h = 0; h < 24; h++) {
                bits |= homeBits(h) == 1 << b ? 1 << b : 0;
            }
        }
        return bits;
    }

    // ---- what rang

    private boolean rang(int[] row, int least, One as) {
        for (int i = 0; i < row.length; i++) {
            int due = ring(as, clock + i);
            if (row[i] != least && row[i] != due) {
                return false;
            }
        }
        return true;
    }

    private static int leastOf(int sort) {
        return new int[] {-128, -32768, Integer.MIN_VALUE}[sort];
    }

    long whatRang(int d, int b, int what) {
        if (out(d, 0, 7) || no(b) || out(what, 0, 1)) {
            return -1;
        }
        long why = whyNoRow(d);
        if (why != 0) {
            return why;
        }
        int[] row = (int[]) shelves[d];
        if (row.length > 48) {
            return -13;
        }
        long bits = 0;
        for (int i = 0; i < (what == 0 ? 8 : 10); i++) {
            One as = bells.get(b).again();
            as.kind = what == 0 ? i : as.kind;
            as.figure = what == 0 ? as.figure : i;
            bits += rang(row, leastOf(sorts[d]), as) ? 1 << i : 0;
        }
        return bits;
    }

    long tell(int d, int b, int what) {
        long kinds = whatRang(d, b, what == 1 ? 0 : what);
        if (kinds < 0) {
            return kinds;
        }
        int best = 0;
        int most = 0;
        for (int h = 0; h < 24; h++) {
            java.util.Set<Integer> unlike = new java.util.HashSet<>();
            for (int k = 0; k < 8; k++) {
                if ((kinds >> k) % 2 == 1) {
                    unlike.add(ring(new One(k, bells.get(b).figure, 0), h));
                }
            }
            if (unlike.size() > most) {
                most = unlike.size();
                best = h;
            }
        }
        return what == 0 ? best : most;
    }

    long oneDoor(int what) {
        if (out(what, 0, 1)) {
            return -1;
        }
        List<Integer> twos = new ArrayList<>();
        for (int two = 0; two < 60; two++) {
            int a = two / 10;
            int b = two % 10;
            if (a < b && b < bells.size() && hoursOf(a) == hoursOf(b) && bell(a, 5) == bell(b, 5)
                && bell(a, 6) == bell(b, 6)) {
                twos.add(two);
            }
        }
        if (what == 0) {
            return twos.size();
        }
        return twos.isEmpty() ? -4 : twos.get(0);
    }

    // ---- feet, odds, boys

    private static final Boolean[][] WINS = new Boolean[10][100];

    private static boolean wins(int n, int k) {
        if (n == 0) {
            return true;
        }
        if (WINS[k][n] == null) {
            WINS[k][n] = takes(n, k) > 0;
        }
        return WINS[k][n];
    }

    private static int takes(int n, int k) {
        for (int t = 1; t <= k && t <= n; t++) {
            if (!wins(n - t, k)) {
                return t;
            }
        }
        return 0;
    }

    long feet(int n, int k, int what) {
        if (out(n, 0, 99) || out(k, 1, 9) || out(what, 0, 1)) {
            return -1;
        }
        return what == 0 ? (wins(n, k) ? 1 : 0) : takes(n, k);
    }

    long odds(int b, int n, int t, int part) {
        if (no(b) || out(n, 0, 8) || out(t, 2, 20) || out(part, 0, 1)) {
            return 1000000001L;
        }
        long above = 0;
        long below = 0;
        int wants = wants(bells.get(b).kind, bells.get(b).figure);
        for (int homes = 0; homes < 1 << n; homes++) {
            long ways = 1;
            int rung = bells.get(b).rung;
            boolean opens = false;
            for (int i = 0; i < n; i++) {
                boolean home = (homes >> i) % 2 == 1;
                ways *= home ? t - 1 : 1;
                rung = home ? rung + 1 : 0;
                opens |= rung >= wants;
            }
            above += opens ? ways : 0;
            below += ways;
        }
        return lowest(above, below, part);
    }

    private static long lowest(long above, long below, int part) {
        java.math.BigInteger a = java.math.BigInteger.valueOf(above);
        long shared = a.gcd(java.math.BigInteger.valueOf(below)).longValue();
        return part == 0 ? above / shared : below / shared;
    }

    long run(int what) {
        if (out(what, 0, 1)) {
            return -1;
        }
        long sum = 0;
        for (One one : again()) {
            int heard = ring(one, clock);
            sum += what == 0 ? heard / 100 : heard % 100;
        }
        return sum;
    }

    long mean(int part) {
        if (out(part, 0, 1)) {
            return 1000000001L;
        }
        return bells.isEmpty() ? part : lowest(count(5), bells.size(), part);
    }

    long nearest(int place, int what) {
        if (out(place, 0, 30) || out(what, 0, 1)) {
            return -1;
        }
        for (int far = 0; far <= 30; far++) {
            for (int b = 0; b < bells.size(); b++) {
                if (bells.get(b).place == place - far || bells.get(b).place == place + far) {
                    return what == 0 ? b : far;
                }
            }
        }
        return -4;
    }

    // ---- told lists, days by seeds

    long forged(int d) {
        long why = whyNoRow(d);
        if (why != 0) {
            return why;
        }
        int[] row = (int[]) shelves[d];
        List<One> trial = again();
        for (int i = 0; i < row.length; i++) {
            if (no(row[i]) || ring(trial.get(row[i]), clock + i) == 0) {
                return i;
            }
        }
        return -4;
    }

    long judge(int d) {
        long why = whyNoRow(d);
        if (why != 0) {
            return why;
        }
        int[] row = (int[]) shelves[d];
        for (int i = 0; i < row.length; i++) {
            if (row[i] != leastOf(sorts[d]) && row[i] != Integer.bitCount(homeBits(clock + i))) {
                return i;
            }
        }
        return -4;
    }

    long days(int n, int z, int what) {
        if (out(n, 1, 20) || out(what, 0, 1)) {
            return -1;
        }
        if (bells.isEmpty()) {
            return -3;
        }
        java.math.BigInteger seed = java.math.BigInteger.valueOf(z);
        long sum = 0;
        for (int day = 0; day < n; day++) {
            List<One> trial = again();
            for (int i = 0; i < 12; i++) {
                seed = seed.multiply(java.math.BigInteger.valueOf(1103515245)).add(java.math.BigInteger.valueOf(12345))
                    .mod(java.math.BigInteger.TWO.pow(32));
                int draw = seed.mod(java.math.BigInteger.TWO.pow(31)).intValue() / 65536 % trial.size();
                int heard = ring(trial.get(draw), clock + i);
                sum += what == 0 ? heard / 100 : heard % 100;
            }
        }
        return sum;
    }

    // ---- the image, what is told

    long image() {
        imageBells = again();
        imageClock = clock;
        return clock / 24;
    }

    long restore() {
        if (imageBells == null) {
            return -3;
        }
        bells = again(imageBells);
        clock = imageClock;
        return clock / 24;
    }

    long count(int what) {
        long[] all = {bells.size(), clock % 24, clock / 24, 0, 0, 0};
        for (One one : bells) {
            all[3] += one.rung;
            all[4] += one.opened;
            all[5] += steps(one.kind, one.figure);
        }
        return out(what, 0, 5) ? -1 : all[what];
    }

    // ---- shelves

    private long whyNoRow(int d) {
        if (out(d, 0, 7)) {
            return -1;
        }
        if (shelves[d] == null) {
            return -11;
        }
        return shelves[d] instanceof int[] ? 0 : -12;
    }

    private long whyNoBell(int d) {
        if (out(d, 0, 7)) {
            return -1;
        }
        if (shelves[d] == null) {
            return -11;
        }
        return shelves[d] instanceof int[][] ? 0 : -12;
    }

    long keep(int d, int what, int k, int figure) {
        if (out(d, 0, 7) || out(what, 0, 1) || what == 1 && (out(k, 0, 7) || out(figure, 0, 9))) {
            return -1;
        }
        shelves[d] = what == 0 ? null : new int[][] {{k, figure}};
        return 0;
    }

    long row(int d, int sort, int n) {
        if (out(d, 0, 7) || out(sort, 0, 2) || n > 100) {
            return -1;
        }
        if (n < 0) {
            return -14;
        }
        shelves[d] = new int[n];
        sorts[d] = sort;
        return 0;
    }

    long put(int d, int i, int v) {
        long why = whyNoRow(d);
        if (why != 0) {
            return why;
        }
        int[] row = (int[]) shelves[d];
        if (out(i, 0, row.length - 1)) {
            return -13;
        }
        int bits = 8 << sorts[d];
        row[i] = v << 32 - bits >> 32 - bits;
        return 0;
    }

    long element(int d, int i) {
        if (out(d, 0, 7)) {
            return THROWS_ARGUMENT;
        }
        if (whyNoRow(d) != 0 || out(i, 0, ((int[]) shelves[d]).length - 1)) {
            return THROWS_STATE;
        }
        return ((int[]) shelves[d])[i];
    }

    long copy(int d, int i, int e, int j, int n) {
        if (out(d, 0, 7) || out(e, 0, 7)) {
            return -1;
        }
        if (shelves[d] == null || shelves[e] == null) {
            return -11;
        }
        if (whyNoRow(d) != 0 || whyNoRow(e) != 0 || sorts[d] != sorts[e]) {
            return -12;
        }
        int[] from = ((int[]) shelves[d]).clone();
        int[] to = (int[]) shelves[e];
        if (i < 0 || j < 0 || n < 0 || (long) i + n > from.length || (long) j + n > to.length) {
            return -13;
        }
        for (int at = 0; at < n; at++) {
            to[j + at] = from[i + at];
        }
        return n;
    }

    long cost(int d) {
        long why = whyNoBell(d);
        if (why != 0) {
            return why;
        }
        int[] held = ((int[][]) shelves[d])[0];
        return price(held[0], held[1]);
    }

    long toss(int d) {
        long why = whyNoBell(d);
        if (why != 0) {
            return why;
        }
        int kind = ((int[][]) shelves[d])[0][0];
        int figure = ((int[][]) shelves[d])[0][1];
        if (kind == 2 || kind == 6 || figure == 0) {
            return -15;
        }
        if (kind == 7) {
            return 200 + price(kind, figure);
        }
        return kind == 0 ? figure : 100 + figure;
    }
}
