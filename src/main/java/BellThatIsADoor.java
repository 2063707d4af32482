/** A bell that thinks it is a door: bells on bicycles, each of a house that is not there. */
public final class BellThatIsADoor {
    private static final int NO_SUCH = -1;
    private static final int NO_ROOM = -2;
    private static final int NOT_AS_IT_MUST_BE = -3;
    private static final int NONE = -4;
    private static final int NOTHING_HELD = -11;
    private static final int OTHER_KIND = -12;
    private static final int NO_SUCH_PLACE = -13;
    private static final int SIZE_BELOW_ZERO = -14;
    private static final int NO_FAILURE = -15;
    private static final long REFUSALS_OF_LONGS = 1000000000L;
    private static final int FAULT_OF_FORM = -1000;
    private static final int FAULT_OF_SENSE = -2000;

    private static final int ROOM = 6;
    private static final int KINDS = 8;
    private static final int FIGURES = 10;
    private static final int PLACES = 31;
    private static final int SHELVES = 8;
    private static final int DAY_HOURS = 24;
    private static final int ALL_HOURS = (1 << DAY_HOURS) - 1;
    private static final int EVEN_HOURS = 0x555555;
    private static final int TWELVE_HOURS = (1 << 12) - 1;
    private static final int HOURS_12_AND_13 = 1 << 12 | 1 << 13;
    private static final int MIDNIGHT = 1;
    private static final int TWO_DAYS = 48;
    private static final int LAST_DAY = 999;
    private static final int MOST_OPENED = 99;
    private static final int MOST_HOURS_AT_ONCE = 99;
    private static final int OPENS = 100;
    private static final int RUNG_ROOM = 10;

    private static final int MOST_RINGS = 60;
    private static final int MOST_TOLD = 48;
    private static final int MOST_HOURS_FOR_ALL = 3;
    private static final int MOST_FEET = 99;
    private static final int MOST_TAKEN = 9;
    private static final int MOST_ODDS_HOURS = 8;
    private static final int LEAST_ODDS = 2;
    private static final int MOST_ODDS = 20;
    private static final int MOST_DIVISIONS = 100;
    private static final int MOST_DAYS = 20;
    private static final int RINGS_A_DAY = 12;
    private static final int WITHOUT_SIGN = 2147483647;
    private static final int ERRAND_HOURS = 200;
    private static final int PLACES_AN_HOUR = 10;

    private static final int BYTES = 0;
    private static final int SHORTS = 1;
    private static final int INTS = 2;
    private static final int MOST_ELEMENTS = 100;
    private static final int LEAST_BYTE = -128;
    private static final int LEAST_SHORT = -32768;
    private static final int LEAST_INT = -2147483648;

    private final Marsh now = new Marsh();
    private final Marsh mind = new Marsh();
    private final Marsh imaged = new Marsh();
    private boolean isImaged;
    private final Bell[] houses = new Bell[KINDS * FIGURES];
    private final Bell[] bellsHeld = new Bell[SHELVES];
    private final Row[] rowsHeld = new Row[SHELVES];
    private final Errand errand = new Errand();
    private final int[] homeByHour = new int[DAY_HOURS];
    private final int[] heardByKind = new int[KINDS];
    private final long[] closedByRung = new long[RUNG_ROOM];

    public BellThatIsADoor() {
        for (int i = 0; i < houses.length; i++) {
            houses[i] = newHouse(i / FIGURES, i % FIGURES);
        }
    }

    // ---- the marsh as told

    public int marsh(int d) {
        Row text = rowOn(d);
        if (text == null) {
            return lackOfRow(d);
        }
        if (text.sort != BYTES) {
            return OTHER_KIND;
        }
        int stray = strayPlace(text);
        return stray >= 0 ? FAULT_OF_FORM - stray : doStatements(text);
    }

    public int bell(int b, int what) {
        return now.told(b, what);
    }

    public int comes(int d, int place) {
        if (!isPlace(place)) {
            return NO_SUCH;
        }
        Bell house = bellOn(d);
        return house == null ? lackOfBell(d) : now.add(house, place);
    }

    public int rings(int b) {
        return now.hear(b);
    }

    public int hours(int n) {
        if (n < 1 || n > MOST_HOURS_AT_ONCE) {
            return NO_SUCH;
        }
        return now.pass(n) ? now.hour : NOT_AS_IT_MUST_BE;
    }

    public int moves(int b, int place) {
        return now.move(b, place);
    }

    // ---- who is at home

    public int home(int hour) {
        return isHour(hour) ? now.homeAt(hour) : NO_SUCH;
    }

    public int hoursOf(int b) {
        return now.hoursAtHomeOf(b);
    }

    public int behind(int b, int n, int what) {
        if (!now.has(b) || n < 0 || n > MOST_RINGS || !isFirstOrSecond(what)) {
            return NO_SUCH;
        }
        mind.takeFrom(now);
        int opened = 0;
        int heard = NONE;
        for (int i = 0; i < n; i++) {
            heard = mind.hear(b);
            opened += openedOrHeard(heard, 0);
            mind.passOne();
        }
        return what == 0 ? opened : heard;
    }

    public int soonest(int b) {
        return now.has(b) ? now.soonestOf(b) : NO_SUCH;
    }

    public int fewest(int b, int h) {
        if (!now.has(b) || h < 1 || h > TWO_DAYS) {
            return NO_SUCH;
        }
        int opens = now.soonestOf(b);
        return opens >= 0 && opens < h ? now.ringsLacking(b) : NONE;
    }

    public int never() {
        int bits = 0;
        for (int b = 0; b < now.size; b++) {
            if (now.soonestOf(b) == NONE) {
                bits |= 1 << b;
            }
        }
        return bits;
    }

    public int first() {
        int best = NONE;
        int least = TWO_DAYS;
        for (int b = 0; b < now.size; b++) {
            int opens = now.soonestOf(b);
            if (opens >= 0 && opens < least) {
                least = opens;
                best = b;
            }
        }
        return best;
    }

    // ---- errands, hours

    public int errands(int place, int set, int i) {
        boolean isSet = set > 0 && set < 1 << now.size;
        if (!isPlace(place) || !isSet || i < -1) {
            return NO_SUCH;
        }
        errand.seek(now, place, set);
        return i == -1 ? errand.hoursNeeded() : errand.bellAt(i);
    }

    public int forAll() {
        for (int h = 0; h < DAY_HOURS; h++) {
            homeByHour[h] = now.homeAt(h);
        }
        int all = (1 << now.size) - 1;
        int bits = NONE;
        for (int many = 0; many <= MOST_HOURS_FOR_ALL && bits < 0; many++) {
            bits = leastHoursFor(homeByHour, all, many, DAY_HOURS);
        }
        return bits;
    }

    public int busiest(int what) {
        if (!isFirstOrSecond(what)) {
            return NO_SUCH;
        }
        int best = 0;
        int most = 0;
        for (int h = 0; h < DAY_HOURS; h++) {
            int many = Integer.bitCount(now.homeAt(h));
            if (many > most) {
                most = many;
                best = h;
            }
        }
        return what == 0 ? best : most;
    }

    public int alone() {
        int bits = 0;
        for (int h = 0; h < DAY_HOURS; h++) {
            int home = now.homeAt(h);
            if (Integer.bitCount(home) == 1) {
                bits |= home;
            }
        }
        return bits;
    }

    // ---- what rang

    public int whatRang(int d, int b, int what) {
        Row heard = rowOn(d);
        if (heard == null || !mayBeHeard(heard, b, what)) {
            return whyNotHeard(d, b, what);
        }
        return what == 0 ? kindsThatRang(heard, b) : figuresThatRang(heard, b);
    }

    public int tell(int d, int b, int what) {
        Row heard = rowOn(d);
        if (heard == null || !mayBeHeard(heard, b, what)) {
            return whyNotHeard(d, b, what);
        }
        int kinds = kindsThatRang(heard, b);
        int best = 0;
        int most = 0;
        for (int h = 0; h < DAY_HOURS; h++) {
            int many = unlikeAt(h, kinds, now.figureOf(b));
            if (many > most) {
                most = many;
                best = h;
            }
        }
        return what == 0 ? best : most;
    }

    public int oneDoor(int what) {
        if (!isFirstOrSecond(what)) {
            return NO_SUCH;
        }
        int many = 0;
        int found = NONE;
        for (int a = 0; a < now.size; a++) {
            for (int b = a + 1; b < now.size; b++) {
                if (now.areOneDoor(a, b)) {
                    many++;
                    found = found == NONE ? 10 * a + b : found;
                }
            }
        }
        return what == 0 ? many : found;
    }

    // ---- feet, odds, boys

    public int feet(int n, int k, int what) {
        boolean isGame = n >= 0 && n <= MOST_FEET && k >= 1 && k <= MOST_TAKEN;
        if (!isGame || !isFirstOrSecond(what)) {
            return NO_SUCH;
        }
        // Whoever leaves one step more than a multiple of k + 1 can leave such a rest again and again.
        int taken = n == 0 ? 0 : (n - 1) % (k + 1);
        int wins = n == 0 || taken > 0 ? 1 : 0;
        return what == 0 ? wins : taken;
    }

    public long odds(int b, int n, int t, int part) {
        boolean isGame = n >= 0 && n <= MOST_ODDS_HOURS && t >= LEAST_ODDS && t <= MOST_ODDS;
        if (!now.has(b) || !isGame || !isFirstOrSecond(part)) {
            return refusedAsLong(NO_SUCH);
        }
        long all = 1;
        for (int i = 0; i < n; i++) {
            all *= t;
        }
        return partOfFraction(all - waysStayingClosed(b, n, t), all, part);
    }

    public int run(int what) {
        if (!isFirstOrSecond(what)) {
            return NO_SUCH;
        }
        mind.takeFrom(now);
        int sum = 0;
        for (int b = 0; b < mind.size; b++) {
            sum += openedOrHeard(mind.hear(b), what);
        }
        return sum;
    }

    public long mean(int part) {
        if (!isFirstOrSecond(part)) {
            return refusedAsLong(NO_SUCH);
        }
        return partOfFraction(now.allSteps(), Math.max(1, now.size), part);
    }

    public int nearest(int place, int what) {
        if (!isPlace(place) || !isFirstOrSecond(what)) {
            return NO_SUCH;
        }
        int best = NONE;
        int least = PLACES;
        for (int b = 0; b < now.size; b++) {
            int far = now.farFrom(b, place);
            if (far < least) {
                least = far;
                best = b;
            }
        }
        if (best == NONE) {
            return NONE;
        }
        return what == 0 ? best : least;
    }

    // ---- told lists, days by seeds

    public int forged(int d) {
        Row list = rowOn(d);
        if (list == null) {
            return lackOfRow(d);
        }
        mind.takeFrom(now);
        for (int i = 0; i < list.length(); i++) {
            if (mind.hear(list.at(i)) <= 0) {
                return i;
            }
            mind.passOne();
        }
        return NONE;
    }

    public int judge(int d) {
        Row list = rowOn(d);
        if (list == null) {
            return lackOfRow(d);
        }
        int skipped = list.least();
        for (int i = 0; i < list.length(); i++) {
            int told = list.at(i);
            int many = Integer.bitCount(now.homeAt((now.hour + i) % DAY_HOURS));
            if (told != skipped && told != many) {
                return i;
            }
        }
        return NONE;
    }

    public int days(int n, int z, int what) {
        if (n < 1 || n > MOST_DAYS || !isFirstOrSecond(what)) {
            return NO_SUCH;
        }
        if (now.size == 0) {
            return NOT_AS_IT_MUST_BE;
        }
        int seed = z;
        int sum = 0;
        for (int day = 0; day < n; day++) {
            mind.takeFrom(now);
            for (int i = 0; i < RINGS_A_DAY; i++) {
                seed = nextSeed(seed);
                sum += openedOrHeard(mind.hear(drawBelow(now.size, seed)), what);
                mind.passOne();
            }
        }
        return sum;
    }

    // ---- the image, what is told

    public int image() {
        imaged.takeFrom(now);
        isImaged = true;
        return now.day;
    }

    public int restore() {
        if (!isImaged) {
            return NOT_AS_IT_MUST_BE;
        }
        now.takeFrom(imaged);
        return now.day;
    }

    public int count(int what) {
        switch (what) {
            case 0:
                return now.size;
            case 1:
                return now.hour;
            case 2:
                return now.day;
            case 3:
                return now.allRung();
            case 4:
                return now.allOpened();
            case 5:
                return now.allSteps();
            default:
                return NO_SUCH;
        }
    }

    // ---- shelves

    public int keep(int d, int what, int k, int figure) {
        if (!isShelf(d) || !isFirstOrSecond(what)) {
            return NO_SUCH;
        }
        Bell house = what == 0 ? null : houseOf(k, figure);
        if (what == 1 && house == null) {
            return NO_SUCH;
        }
        bellsHeld[d] = house;
        rowsHeld[d] = null;
        return 0;
    }

    public int row(int d, int sort, int n) {
        if (!isShelf(d) || sort < BYTES || sort > INTS || n > MOST_ELEMENTS) {
            return NO_SUCH;
        }
        if (n < 0) {
            return SIZE_BELOW_ZERO;
        }
        bellsHeld[d] = null;
        rowsHeld[d] = new Row(sort, n);
        return 0;
    }

    public int put(int d, int i, int v) {
        Row held = rowOn(d);
        if (held == null) {
            return lackOfRow(d);
        }
        if (!held.has(i)) {
            return NO_SUCH_PLACE;
        }
        held.setAt(i, v);
        return 0;
    }

    public long element(int d, int i) throws IllegalArgumentException, IllegalStateException {
        if (!isShelf(d)) {
            throw new IllegalArgumentException("no such shelf");
        }
        Row held = rowOn(d);
        if (held == null || !held.has(i)) {
            throw new IllegalStateException("no such element");
        }
        return held.at(i);
    }

    public int copy(int d, int i, int e, int j, int n) {
        if (!isShelf(d) || !isShelf(e)) {
            return NO_SUCH;
        }
        if (holdsNothing(d) || holdsNothing(e)) {
            return NOTHING_HELD;
        }
        Row from = rowOn(d);
        Row to = rowOn(e);
        if (from == null || to == null || from.sort != to.sort) {
            return OTHER_KIND;
        }
        if (!from.hasAll(i, n) || !to.hasAll(j, n)) {
            return NO_SUCH_PLACE;
        }
        System.arraycopy(from.elements, i, to.elements, j, n);
        return n;
    }

    public int cost(int d) {
        Bell house = bellOn(d);
        return house == null ? lackOfBell(d) : house.price;
    }

    public int toss(int d) {
        Bell house = bellOn(d);
        return house == null ? lackOfBell(d) : caughtFrom(house);
    }

    // ---- what is refused, and what stands on the shelves

    private static boolean isShelf(int d) {
        return d >= 0 && d < SHELVES;
    }

    private static boolean isPlace(int place) {
        return place >= 0 && place < PLACES;
    }

    private static boolean isHour(int hour) {
        return hour >= 0 && hour < DAY_HOURS;
    }

    private static boolean isFirstOrSecond(int what) {
        return what == 0 || what == 1;
    }

    private static long refusedAsLong(int refusal) {
        return REFUSALS_OF_LONGS - refusal;
    }

    private boolean holdsNothing(int d) {
        return rowOn(d) == null && bellOn(d) == null;
    }

    private Row rowOn(int d) {
        return isShelf(d) ? rowsHeld[d] : null;
    }

    private Bell bellOn(int d) {
        return isShelf(d) ? bellsHeld[d] : null;
    }

    private int lackOfRow(int d) {
        if (!isShelf(d)) {
            return NO_SUCH;
        }
        return bellsHeld[d] == null ? NOTHING_HELD : OTHER_KIND;
    }

    private int lackOfBell(int d) {
        if (!isShelf(d)) {
            return NO_SUCH;
        }
        return rowsHeld[d] == null ? NOTHING_HELD : OTHER_KIND;
    }

    private static int caughtFrom(Bell house) {
        try {
            house.fail();
        } catch (IllegalStateException e) {
            return house.figure;
        } catch (IllegalArgumentException e) {
            return house.figure + 100;
        } catch (UnsupportedOperationException e) {
            return house.price + 200;
        }
        return NO_FAILURE;
    }

    // ---- houses

    private static Bell newHouse(int kind, int figure) {
        switch (kind) {
            case 1:
                return new Door(kind, figure);
            case 2:
                return new Hen(kind, figure);
            case 3:
                return new Cough(kind, figure);
            case 4:
                return new Maid(kind, figure);
            case 5:
                return new Suited(kind, figure);
            case 6:
                return new Echo(kind, figure);
            case 7:
                return new Marble(kind, figure);
            default:
                return new Bell(kind, figure);
        }
    }

    /** The house of a KIND with a FIGURE; null if there is no such one. */
    private Bell houseOf(int kind, int figure) {
        boolean isOne = kind >= 0 && kind < KINDS && figure >= 0 && figure < FIGURES;
        return isOne ? houses[kind * FIGURES + figure] : null;
    }

    // ---- the text of a marsh

    /** How many digits stand between a STATEMENT's letter and its ";"; -1 if none begins so. */
    private static int digitsBehind(int letter) {
        switch (letter) {
            case 'b':
                return 4;
            case 'r':
                return 1;
            case 'h':
                return 2;
            case 'p':
                return 3;
            default:
                return -1;
        }
    }

    private static boolean isDigit(int sign) {
        return sign >= '0' && sign <= '9';
    }

    /** The place of the first byte with which no MARSH can go on; -1 if there is none. */
    private static int strayPlace(Row text) {
        int at = 0;
        do {
            int digits = digitsBehind(text.at(at));
            if (digits < 0) {
                return at;
            }
            int end = at + 1 + digits;
            for (at++; at < end; at++) {
                if (!isDigit(text.at(at))) {
                    return at;
                }
            }
            if (text.at(at) != ';') {
                return at;
            }
            at++;
        } while (at < text.length());
        return -1;
    }

    /** Tries all in mind, so that nothing has come if one can't be done. */
    private int doStatements(Row text) {
        mind.takeFrom(now);
        int statements = 0;
        int at = 0;
        while (at < text.length()) {
            if (!isDone(text, at)) {
                return FAULT_OF_SENSE - at;
            }
            statements++;
            at += Math.max(0, digitsBehind(text.at(at))) + 2;
        }
        now.takeFrom(mind);
        return statements;
    }

    private boolean isDone(Row text, int at) {
        int one = digit(text, at + 1);
        switch (text.at(at)) {
            case 'b':
                Bell house = houseOf(one, digit(text, at + 2));
                int place = twoDigits(text, at + 3);
                return house != null && isPlace(place) && mind.add(house, place) >= 0;
            case 'r':
                return mind.hear(one) >= 0;
            case 'h':
                int n = twoDigits(text, at + 1);
                return n >= 1 && mind.pass(n);
            default:
                return mind.move(one, twoDigits(text, at + 2)) >= 0;
        }
    }

    private static int digit(Row text, int at) {
        return text.at(at) - '0';
    }

    private static int twoDigits(Row text, int at) {
        return 10 * digit(text, at) + digit(text, at + 1);
    }

    // ---- what part II counts

    /** What one RING adds: whether it opened (what 0), what is HEARD less an opening's 100 (1). */
    private static int openedOrHeard(int heard, int what) {
        boolean isOpen = heard >= OPENS;
        if (what == 0) {
            return isOpen ? 1 : 0;
        }
        return isOpen ? heard - OPENS : heard;
    }

    /** The least bits of so many HOURS below one at which all who are wanted are HOME; NONE. */
    private static int leastHoursFor(int[] homeByHour, int wanted, int many, int below) {
        if (many <= 0) {
            return wanted == 0 ? 0 : NONE;
        }
        for (int top = 0; top < below && top < homeByHour.length; top++) {
            int rest = leastHoursFor(homeByHour, wanted & ~homeByHour[top], many - 1, top);
            if (rest >= 0) {
                return rest | 1 << top;
            }
        }
        return NONE;
    }

    private boolean mayBeHeard(Row heard, int b, int what) {
        return now.has(b) && isFirstOrSecond(what) && heard.length() <= MOST_TOLD;
    }

    private int whyNotHeard(int d, int b, int what) {
        if (!now.has(b) || !isFirstOrSecond(what)) {
            return NO_SUCH;
        }
        return rowOn(d) == null ? lackOfRow(d) : NO_SUCH_PLACE;
    }

    private int kindsThatRang(Row heard, int b) {
        int bits = 0;
        for (int k = 0; k < KINDS; k++) {
            if (couldRing(heard, houseOf(k, now.figureOf(b)), now.rungOf(b))) {
                bits |= 1 << k;
            }
        }
        return bits;
    }

    private int figuresThatRang(Row heard, int b) {
        int bits = 0;
        for (int f = 0; f < FIGURES; f++) {
            if (couldRing(heard, houseOf(now.kindOf(b), f), now.rungOf(b))) {
                bits |= 1 << f;
            }
        }
        return bits;
    }

    private boolean couldRing(Row heard, Bell house, int rung) {
        if (house == null) {
            return false;
        }
        mind.holdOnly(house, rung, now.hour);
        int skipped = heard.least();
        for (int i = 0; i < heard.length(); i++) {
            int told = heard.at(i);
            int due = mind.hear(0);
            if (told != skipped && told != due) {
                return false;
            }
            mind.passOne();
        }
        return true;
    }

    /** How many unlike answers the KINDS (bits) give to one RING at an HOUR. */
    private int unlikeAt(int hour, int kinds, int figure) {
        int many = 0;
        for (int k = 0; k < KINDS; k++) {
            Bell house = houseOf(k, figure);
            if ((kinds >> k & 1) != 0 && house != null) {
                mind.holdOnly(house, 0, hour);
                int heard = mind.hear(0);
                if (many < KINDS && !isAmong(heard, many)) {
                    heardByKind[many] = heard;
                    many++;
                }
            }
        }
        return many;
    }

    private boolean isAmong(int heard, int many) {
        for (int i = 0; i < many && i < KINDS; i++) {
            if (heardByKind[i] == heard) {
                return true;
            }
        }
        return false;
    }

    /** In how many of the t to the n ways no RING opens. */
    private long waysStayingClosed(int b, int n, int t) {
        int wants = Math.min(RUNG_ROOM, now.wantsOf(b));
        int rung = now.rungOf(b);
        for (int r = 0; r < RUNG_ROOM; r++) {
            closedByRung[r] = r == rung ? 1 : 0;
        }
        for (int i = 0; i < n; i++) {
            long away = allClosed();
            for (int r = RUNG_ROOM - 1; r > 0; r--) {
                closedByRung[r] = r < wants ? closedByRung[r - 1] * (t - 1) : 0;
            }
            closedByRung[0] = away;
        }
        return allClosed();
    }

    private long allClosed() {
        long sum = 0;
        for (int r = 0; r < RUNG_ROOM; r++) {
            sum += closedByRung[r];
        }
        return sum;
    }

    private static long partOfFraction(long above, long below, int part) {
        long shared = greatestDivisor(above, below);
        if (shared <= 0) {
            return 0;
        }
        return part == 0 ? above / shared : below / shared;
    }

    private static long greatestDivisor(long above, long below) {
        long a = above;
        long b = below;
        for (int i = 0; i < MOST_DIVISIONS && b > 0; i++) {
            long rest = a % b;
            a = b;
            b = rest;
        }
        return a;
    }

    private static int nextSeed(int seed) {
        return seed * 1103515245 + 12345;
    }

    private static int drawBelow(int n, int seed) {
        return n < 1 ? 0 : (seed & WITHOUT_SIGN) / 65536 % n;
    }

    // ---- the kinds: each constructor tells in what one is unlike the one that it is under

    private static class Bell {
        final int kind;
        final int figure;
        int hoursAtHome;
        int wants = 1;
        int steps;
        int price = 3;

        Bell(int kind, int figure) {
            this.kind = kind;
            this.figure = figure;
            // A FIGURE is 9 at most, so that these HOURS end ahead of midnight and need not go round.
            hoursAtHome = TWELVE_HOURS << figure;
            steps = figure + 1;
        }

        /** Throws the FAILURE, if there is one. */
        void fail() {
            if (figure != 0) {
                throw new IllegalStateException("a bell fails");
            }
        }
    }

    private static class Door extends Bell {
        Door(int kind, int figure) {
            super(kind, figure);
            hoursAtHome &= ~HOURS_12_AND_13;
            wants += 1;
            steps += 2;
            price += figure;
        }

        void fail() {
            if (figure != 0) {
                throw new IllegalArgumentException("a door fails");
            }
        }
    }

    private static final class Hen extends Bell {
        Hen(int kind, int figure) {
            super(kind, figure);
            hoursAtHome = ALL_HOURS;
            steps = 0;
            price = 1;
        }

        void fail() {
        }
    }

    private static class Cough extends Door {
        Cough(int kind, int figure) {
            super(kind, figure);
            hoursAtHome = ALL_HOURS & ~hoursAtHome;
            wants += figure / 3;
            steps *= 2;
            price *= 2;
        }
    }

    private static class Maid extends Door {
        Maid(int kind, int figure) {
            super(kind, figure);
            hoursAtHome &= EVEN_HOURS;
            steps /= 2;
            price += 4;
        }
    }

    private static final class Suited extends Maid {
        Suited(int kind, int figure) {
            super(kind, figure);
            hoursAtHome = 0;
            price /= 2;
        }
    }

    private static final class Echo extends Bell {
        Echo(int kind, int figure) {
            super(kind, figure);
            hoursAtHome = 0;
            int divisor = Math.max(1, figure + 1);
            for (int h = 0; h < DAY_HOURS; h++) {
                hoursAtHome |= h % divisor == 0 ? 1 << h : 0;
            }
            wants = figure / 2 + 1;
            steps = 9 - figure;
            price -= 2;
        }

        void fail() {
        }
    }

    private static final class Marble extends Cough {
        Marble(int kind, int figure) {
            super(kind, figure);
            hoursAtHome |= MIDNIGHT;
            wants *= 2;
            steps += 1;
            price += figure;
        }

        void fail() {
            if (figure != 0) {
                throw new UnsupportedOperationException("a marble fails");
            }
        }
    }

    /** All BELLS that have come, HOUR and DAY: what there is, or what there would be. */
    private static final class Marsh {
        private final int[] kinds = new int[ROOM];
        private final int[] figures = new int[ROOM];
        private final int[] places = new int[ROOM];
        private final int[] rung = new int[ROOM];
        private final int[] opened = new int[ROOM];
        // What its house makes of a BELL never changes, and is taken over when it comes.
        private final int[] hoursAtHome = new int[ROOM];
        private final int[] wants = new int[ROOM];
        private final int[] steps = new int[ROOM];
        private int size;
        private int hour = 8;
        private int day;

        void takeFrom(Marsh other) {
            for (int b = 0; b < ROOM; b++) {
                kinds[b] = other.kinds[b];
                figures[b] = other.figures[b];
                places[b] = other.places[b];
                rung[b] = other.rung[b];
                opened[b] = other.opened[b];
                hoursAtHome[b] = other.hoursAtHome[b];
                wants[b] = other.wants[b];
                steps[b] = other.steps[b];
            }
            size = other.size;
            hour = other.hour;
            day = other.day;
        }

        void holdOnly(Bell house, int rungNow, int hourNow) {
            size = 0;
            add(house, 0);
            rung[0] = rungNow;
            hour = hourNow;
        }

        boolean has(int b) {
            return b >= 0 && b < size;
        }

        int add(Bell house, int place) {
            if (size >= ROOM) {
                return NO_ROOM;
            }
            int b = size;
            kinds[b] = house.kind;
            figures[b] = house.figure;
            places[b] = place;
            rung[b] = 0;
            opened[b] = 0;
            hoursAtHome[b] = house.hoursAtHome;
            wants[b] = house.wants;
            steps[b] = house.steps;
            size++;
            return b;
        }

        int told(int b, int what) {
            if (!has(b)) {
                return NO_SUCH;
            }
            switch (what) {
                case 0:
                    return kinds[b];
                case 1:
                    return figures[b];
                case 2:
                    return places[b];
                case 3:
                    return rung[b];
                case 4:
                    return opened[b];
                case 5:
                    return wants[b];
                case 6:
                    return steps[b];
                case 7:
                    return isHomeAt(b, hour) ? 1 : 0;
                default:
                    return NO_SUCH;
            }
        }

        int kindOf(int b) {
            return told(b, 0);
        }

        int figureOf(int b) {
            return told(b, 1);
        }

        int placeOf(int b) {
            return told(b, 2);
        }

        int rungOf(int b) {
            return told(b, 3);
        }

        int wantsOf(int b) {
            return told(b, 5);
        }

        int ringsLacking(int b) {
            return wantsOf(b) - rungOf(b);
        }

        int farFrom(int b, int place) {
            return Math.abs(placeOf(b) - place);
        }

        /** PLACE becomes another one: what it was. */
        int move(int b, int place) {
            if (!has(b) || !isPlace(place)) {
                return NO_SUCH;
            }
            int was = places[b];
            places[b] = place;
            return was;
        }

        boolean isHomeAt(int b, int atHour) {
            return b >= 0 && b < size && (hoursAtHome[b] >> atHour & 1) != 0;
        }

        int homeAt(int atHour) {
            int bits = 0;
            for (int b = 0; b < size; b++) {
                bits |= isHomeAt(b, atHour) ? 1 << b : 0;
            }
            return bits;
        }

        int hoursAtHomeOf(int b) {
            return has(b) ? hoursAtHome[b] : NO_SUCH;
        }

        /** A RING at HOUR: what is HEARD. */
        int hear(int b) {
            if (!has(b)) {
                return NO_SUCH;
            }
            int rings = rungWithOneMore(b, hour, rung[b]);
            if (rings == 0) {
                rung[b] = 0;
                return 0;
            }
            if (wants[b] <= 0 || rings >= wants[b]) {
                rung[b] = 0;
                opened[b] = Math.min(MOST_OPENED, opened[b] + 1);
                return steps[b] + OPENS;
            }
            rung[b] = rings;
            return steps[b] * rings / wants[b];
        }

        private int rungWithOneMore(int b, int atHour, int rungSoFar) {
            return isHomeAt(b, atHour) ? rungSoFar + 1 : 0;
        }

        void passOne() {
            hour++;
            if (hour >= DAY_HOURS) {
                hour = 0;
                day++;
            }
        }

        /** So many HOURS go by, or none if DAY would be above the last one. */
        boolean pass(int n) {
            int then = hour + n;
            int dayThen = day + then / DAY_HOURS;
            if (dayThen > LAST_DAY) {
                return false;
            }
            hour = then % DAY_HOURS;
            day = dayThen;
            return true;
        }

        /** Behind how many HOURS it opens first, when it is rung just when somebody is HOME. */
        int soonestOf(int b) {
            int lacking = ringsLacking(b);
            for (int i = 0; i < TWO_DAYS; i++) {
                lacking -= isHomeAt(b, (hour + i) % DAY_HOURS) ? 1 : 0;
                if (lacking <= 0) {
                    return i;
                }
            }
            return NONE;
        }

        /** How many rings, one each HOUR from one on, till it opens; NONE if it never does. */
        int ringsTillOpen(int b, int fromHour) {
            int rings = rungOf(b);
            // Behind two days of it a day goes as the day ahead of it went.
            for (int i = 0; i < TWO_DAYS; i++) {
                rings = rungWithOneMore(b, (fromHour + i) % DAY_HOURS, rings);
                if (rings >= wantsOf(b)) {
                    return i + 1;
                }
            }
            return NONE;
        }

        boolean areOneDoor(int a, int b) {
            return has(a) && has(b) && hoursAtHome[a] == hoursAtHome[b]
                && wants[a] == wants[b] && steps[a] == steps[b];
        }

        int allRung() {
            return sumOf(rung);
        }

        int allOpened() {
            return sumOf(opened);
        }

        int allSteps() {
            return sumOf(steps);
        }

        private int sumOf(int[] figuresOfAll) {
            int sum = 0;
            for (int b = 0; b < size && b < figuresOfAll.length; b++) {
                sum += figuresOfAll[b];
            }
            return sum;
        }
    }

    /** A boy's way from a PLACE to some BELLS, by the order in which he is done first. */
    private static final class Errand {
        // Rings till one opens, by the BELL and the HOUR when he is there; 0 if not yet counted.
        private final int[] rings = new int[ROOM * DAY_HOURS];
        private final int[] order = new int[ROOM];
        private final int[] best = new int[ROOM];
        private int fewestHours;
        private int many;

        void seek(Marsh marsh, int from, int set) {
            for (int i = 0; i < rings.length; i++) {
                rings[i] = 0;
            }
            fewestHours = ERRAND_HOURS + 1;
            many = 0;
            goOn(this, marsh, from, set, 0, 0);
        }

        int hoursNeeded() {
            return many == 0 ? NONE : fewestHours;
        }

        int bellAt(int i) {
            return i >= 0 && i < many ? best[i] : NONE;
        }

        // Static, as a method that calls itself has to be: the way is an argument.
        private static void goOn(Errand way, Marsh marsh, int place, int left, int hours, int visited) {
            if (hours >= way.fewestHours) {
                return;
            }
            if (left == 0) {
                way.keepOrder(hours, visited);
                return;
            }
            for (int b = 0; b < ROOM && visited < ROOM; b++) {
                if ((left >> b & 1) != 0) {
                    int there = hours + wayHours(marsh.farFrom(b, place));
                    int rung = way.ringsFrom(marsh, b, (marsh.hour + there) % DAY_HOURS);
                    way.order[visited] = b;
                    if (rung > 0) {
                        goOn(way, marsh, marsh.placeOf(b), left & ~(1 << b), there + rung, visited + 1);
                    }
                }
            }
        }

        private void keepOrder(int hours, int visited) {
            fewestHours = hours;
            many = visited;
            for (int i = 0; i < ROOM; i++) {
                best[i] = order[i];
            }
        }

        private static int wayHours(int places) {
            return (places + PLACES_AN_HOUR - 1) / PLACES_AN_HOUR;
        }

        private int ringsFrom(Marsh marsh, int b, int hour) {
            int at = b * DAY_HOURS + hour;
            if (at < 0 || at >= rings.length) {
                return NONE;
            }
            if (rings[at] == 0) {
                rings[at] = marsh.ringsTillOpen(b, hour);
            }
            return rings[at];
        }
    }

    /** A ROW of a SORT; its elements are kept as that SORT would keep them. */
    private static final class Row {
        final int sort;
        final int[] elements;

        Row(int sort, int n) {
            this.sort = sort;
            this.elements = new int[Math.max(0, n)];
        }

        int length() {
            return elements.length;
        }

        boolean has(int i) {
            return i >= 0 && i < elements.length;
        }

        boolean hasAll(int i, int n) {
            return i >= 0 && n >= 0 && n <= elements.length - i;
        }

        /** Element i; 0 behind the end, which is no sign of any text. */
        int at(int i) {
            return has(i) ? elements[i] : 0;
        }

        void setAt(int i, int v) {
            if (has(i)) {
                elements[i] = sort == BYTES ? (byte) v : sort == SHORTS ? (short) v : v;
            }
        }

        int least() {
            switch (sort) {
                case BYTES:
                    return LEAST_BYTE;
                case SHORTS:
                    return LEAST_SHORT;
                default:
                    return LEAST_INT;
            }
        }
    }
}
