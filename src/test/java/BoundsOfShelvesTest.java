/** A test for each sentence that names a bound of SHELVES, KINDS on them, ROWS (promises 4 and 33 to 39). */
public final class BoundsOfShelvesTest {
    private static final Due DUE = new Due("BoundsOfShelvesTest");
    private static final int LOW = Integer.MIN_VALUE;
    private static final int HIGH = Integer.MAX_VALUE;
    private static final int[] NO_SHELF = {-1, 8, LOW, HIGH};

    public static void main(String[] args) {
        eightShelves();
        nothingAtFirst();
        oneThingAShelf();
        sortOfARow();
        sizeOfARow();
        sizeBelowNone();
        zeroAtFirst();
        lowestBitsOfBytes();
        lowestBitsOfShorts();
        intsAsTheyAre();
        placesToPut();
        putIsRefused();
        elementThrowsArgument();
        elementThrowsState();
        keepNothing();
        keepAKind();
        keepIsRefused();
        comesFromAShelf();
        comesIsRefused();
        noRoomToCome();
        takenStaysThere();
        copyOfNone();
        copyToTheEnd();
        copyWithinOne();
        copyFromNothing();
        copyOfOneSort();
        copyOfNoPlace();
        costOfAll();
        costIsRefused();
        failureOfAll();
        failureThatIsNone();
        tossIsRefused();
        nothingChanges();
        DUE.end();
    }

    private static void eightShelves() {
        DUE.sentence("SHELVES 0 .. 7");
        BellThatIsADoor x = new BellThatIsADoor();
        for (int d = 0; d < 8; d++) {
            DUE.is("row(" + d + ", 2, " + (d + 1) + ")", x.row(d, 2, d + 1), 0);
            DUE.is("put(" + d + ", " + d + ", " + 10 * d + ")", x.put(d, d, 10 * d), 0);
        }
        for (int d = 0; d < 8; d++) {
            DUE.is("element(" + d + ", " + d + ")", x.element(d, d), 10 * d);
            DUE.noElement(x, d, d + 1);
        }
        for (int d : NO_SHELF) {
            String shelf = "SHELF " + d;
            Told.unchanged(DUE, "row on " + shelf, Samples::some, y -> y.row(d, 0, 1), -1);
            Told.unchanged(DUE, "keep on " + shelf, Samples::some, y -> y.keep(d, 1, 0, 0), -1);
            Told.unchanged(DUE, "keep nothing on " + shelf, Samples::some, y -> y.keep(d, 0, 0, 0), -1);
            Told.unchanged(DUE, "put on " + shelf, Samples::some, y -> y.put(d, 0, 0), -1);
            Told.unchanged(DUE, "cost of " + shelf, Samples::some, y -> y.cost(d), -1);
            Told.unchanged(DUE, "toss of " + shelf, Samples::some, y -> y.toss(d), -1);
            Told.unchanged(DUE, "comes from " + shelf, Samples::some, y -> y.comes(d, 0), -1);
            Told.unchanged(DUE, "copy from " + shelf, Samples::some, y -> y.copy(d, 0, 0, 0, 0), -1);
            Told.unchanged(DUE, "copy to " + shelf, Samples::some, y -> y.copy(0, 0, d, 0, 0), -1);
            Told.unchanged(DUE, "marsh of " + shelf, Samples::some, y -> y.marsh(d), -1);
            Told.unchanged(DUE, "whatRang of " + shelf, Samples::some, y -> y.whatRang(d, 0, 0), -1);
            Told.unchanged(DUE, "tell of " + shelf, Samples::some, y -> y.tell(d, 0, 0), -1);
            Told.unchanged(DUE, "forged of " + shelf, Samples::some, y -> y.forged(d), -1);
            Told.unchanged(DUE, "judge of " + shelf, Samples::some, y -> y.judge(d), -1);
        }
    }

    private static void nothingAtFirst() {
        DUE.sentence("each hold nothing (at first) .. -11 nothing is held where something is wanted");
        BellThatIsADoor x = Due.marshOf("b2000;");
        for (int d = 1; d < 8; d++) {
            DUE.is("put", x.put(d, 0, 0), -11);
            DUE.is("cost", x.cost(d), -11);
            DUE.is("toss", x.toss(d), -11);
            DUE.is("comes", x.comes(d, 0), -11);
            DUE.is("copy", x.copy(d, 0, d, 0, 0), -11);
            DUE.is("marsh", x.marsh(d), -11);
            DUE.is("whatRang", x.whatRang(d, 0, 0), -11);
            DUE.is("tell", x.tell(d, 0, 0), -11);
            DUE.is("forged", x.forged(d), -11);
            DUE.is("judge", x.judge(d), -11);
            DUE.noElement(x, d, 0);
        }
        DUE.is("SHELF 0", new BellThatIsADoor().cost(0), -11);
    }

    private static void oneThingAShelf() {
        DUE.sentence("SHELVES .. each hold nothing .., a KIND of BELL, a ROW");
        BellThatIsADoor x = new BellThatIsADoor();
        x.keep(7, 1, 1, 9);
        DUE.is("a KIND", x.cost(7), 12);
        DUE.is("no ROW", x.put(7, 0, 0), -12);
        x.row(7, 0, 1);
        DUE.is("a ROW", x.put(7, 0, 5), 0);
        DUE.is("no KIND", x.cost(7), -12);
        x.keep(7, 1, 2, 0);
        DUE.is("a KIND again", x.cost(7), 1);
        DUE.is("no ROW", x.put(7, 0, 0), -12);
        DUE.noElement(x, 7, 0);
        x.keep(7, 1, 0, 1);
        DUE.is("another KIND", x.toss(7), 1);
        x.row(7, 0, 3);
        x.row(7, 0, 2);
        DUE.is("another ROW", x.put(7, 2, 0), -13);
        x.keep(7, 0, 0, 0);
        DUE.is("nothing", x.put(7, 0, 0), -11);
        DUE.is("nothing", x.cost(7), -11);
    }

    private static void sortOfARow() {
        DUE.sentence("A ROW has a SORT (0 bytes, 1 shorts, 2 ints) .. -1");
        BellThatIsADoor x = new BellThatIsADoor();
        int[] most = {127, 32767, HIGH};
        for (int sort = 0; sort < 3; sort++) {
            DUE.is("row(0, " + sort + ", 1)", x.row(0, sort, 1), 0);
            x.put(0, 0, HIGH >> 1 & most[sort]);
            DUE.is("its most", x.element(0, 0), HIGH >> 1 & most[sort]);
        }
        int[] out = {-1, 3, LOW, HIGH};
        for (int sort : out) {
            Told.unchanged(DUE, "row(0, " + sort + ", 1)", Samples::some, y -> y.row(0, sort, 1), -1);
        }
    }

    private static void sizeOfARow() {
        DUE.sentence("0 .. 100 elements .. -1 (n above 100)");
        BellThatIsADoor x = new BellThatIsADoor();
        for (int sort = 0; sort < 3; sort++) {
            DUE.is("no elements", x.row(sort, sort, 0), 0);
            DUE.is("none to put", x.put(sort, 0, 1), -13);
            DUE.is("100 elements", x.row(sort, sort, 100), 0);
            DUE.is("the last one", x.put(sort, 99, 7), 0);
            DUE.is("the last one", x.element(sort, 99), 7);
            DUE.is("one more", x.put(sort, 100, 7), -13);
            DUE.is("101 elements", x.row(sort, sort, 101), -1);
            DUE.is("the ROW stays", x.element(sort, 99), 7);
        }
        Told.unchanged(DUE, "row(3, 0, 101)", Samples::some, y -> y.row(3, 0, 101), -1);
        Told.unchanged(DUE, "far too many", Samples::some, y -> y.row(3, 2, HIGH), -1);
    }

    private static void sizeBelowNone() {
        DUE.sentence("-14 a size below 0 (behind -1, which is told first)");
        int[] out = {-1, -2, -101, LOW};
        for (int n : out) {
            Told.unchanged(DUE, "row(1, 1, " + n + ")", Samples::some, y -> y.row(1, 1, n), -14);
            Told.unchanged(DUE, "row(4, 0, " + n + ")", Samples::some, y -> y.row(4, 0, n), -14);
            Told.unchanged(DUE, "row(1, 3, " + n + ")", Samples::some, y -> y.row(1, 3, n), -1);
            Told.unchanged(DUE, "row(1, -1, " + n + ")", Samples::some, y -> y.row(1, -1, n), -1);
            Told.unchanged(DUE, "row(8, 0, " + n + ")", Samples::some, y -> y.row(8, 0, n), -1);
            Told.unchanged(DUE, "row(-1, 0, " + n + ")", Samples::some, y -> y.row(-1, 0, n), -1);
        }
    }

    private static void zeroAtFirst() {
        DUE.sentence("elements, 0 at first");
        for (int sort = 0; sort < 3; sort++) {
            BellThatIsADoor x = new BellThatIsADoor();
            x.row(sort, sort, 100);
            for (int i = 0; i < 100; i++) {
                DUE.is("element(" + sort + ", " + i + ")", x.element(sort, i), 0);
                x.put(sort, i, -1);
            }
            x.row(sort, sort, 100);
            DUE.is("of another ROW, too", x.element(sort, 0), 0);
            DUE.is("of another ROW, too", x.element(sort, 99), 0);
        }
    }

    private static void kept(BellThatIsADoor x, int sort, int v, long due) {
        DUE.is("put " + v, x.put(sort, 1, v), 0);
        DUE.is("SORT " + sort + ", " + v, x.element(sort, 1), due);
        DUE.is("the one ahead", x.element(sort, 0), 0);
        DUE.is("the one behind", x.element(sort, 2), 0);
    }

    private static BellThatIsADoor rows() {
        BellThatIsADoor x = new BellThatIsADoor();
        for (int sort = 0; sort < 3; sort++) {
            x.row(sort, sort, 3);
        }
        return x;
    }

    private static void lowestBitsOfBytes() {
        DUE.sentence("what is put in keeps its lowest bits (bytes: 8)");
        int[][] due = {{127, 127}, {128, -128}, {129, -127}, {255, -1}, {256, 0}, {257, 1}, {-1, -1}, {-128, -128},
            {-129, 127}, {-256, 0}, {-257, -1}, {32767, -1}, {HIGH, -1}, {LOW, 0}};
        BellThatIsADoor x = rows();
        for (int[] v : due) {
            kept(x, 0, v[0], v[1]);
        }
    }

    private static void lowestBitsOfShorts() {
        DUE.sentence("what is put in keeps its lowest bits (shorts: 16)");
        int[][] due = {{128, 128}, {-129, -129}, {32767, 32767}, {32768, -32768}, {32769, -32767}, {65535, -1}, {65536, 0},
            {65537, 1}, {-32768, -32768}, {-32769, 32767}, {-65536, 0}, {-65537, -1}, {HIGH, -1}, {LOW, 0}};
        BellThatIsADoor x = rows();
        for (int[] v : due) {
            kept(x, 1, v[0], v[1]);
        }
    }

    private static void intsAsTheyAre() {
        DUE.sentence("what is put in keeps its lowest bits (ints: all)");
        int[] values = {128, -129, 32768, -32769, 65536, HIGH, LOW, HIGH - 1, LOW + 1, -1, 0};
        BellThatIsADoor x = rows();
        for (int v : values) {
            kept(x, 2, v, v);
        }
    }

    private static void placesToPut() {
        DUE.sentence("-13 a place that isn't there");
        BellThatIsADoor x = rows();
        DUE.is("the first", x.put(0, 0, 1), 0);
        DUE.is("the last", x.put(0, 2, 3), 0);
        DUE.is("element(0, 0)", x.element(0, 0), 1);
        DUE.is("element(0, 2)", x.element(0, 2), 3);
        int[] out = {-1, 3, 100, LOW, HIGH};
        for (int i : out) {
            Told.unchanged(DUE, "put(1, " + i + ", 5)", Samples::some, y -> y.put(1, i, 5), -13);
        }
    }

    private static void putIsRefused() {
        DUE.sentence("put: -1, -11, -12, -13");
        int[][] out = {{Samples.NOTHING, 0, -11}, {Samples.NOTHING, -1, -11}, {Samples.HEN, 0, -12},
            {Samples.HEN, 100, -12}, {Samples.SHORTS, 3, -13}, {8, -1, -1}, {-1, 0, -1}};
        for (int[] o : out) {
            Told.unchanged(DUE, "put(" + o[0] + ", " + o[1] + ", 1)", Samples::some, x -> x.put(o[0], o[1], 1), o[2]);
        }
    }

    private static void elementThrowsArgument() {
        DUE.sentence("element: IllegalArgumentException: no such SHELF");
        BellThatIsADoor x = Samples.some();
        for (int d : NO_SHELF) {
            DUE.noShelf(x, d, 0);
            DUE.noShelf(x, d, -1);
            DUE.noShelf(x, d, HIGH);
        }
        DUE.is("SHELF 0", x.element(0, 0), 'b');
        DUE.noShelf(new BellThatIsADoor(), 8, 0);
        DUE.same("nothing changes", Told.all(x), Told.all(Samples.some()));
    }

    private static void elementThrowsState() {
        DUE.sentence("element: IllegalStateException: no ROW, no such place");
        BellThatIsADoor x = Samples.some();
        int[][] out = {{Samples.NOTHING, 0}, {Samples.NOTHING, -1}, {Samples.HEN, 0}, {Samples.MARBLE, -1},
            {Samples.SHORTS, -1}, {Samples.SHORTS, 3}, {Samples.INTS, 2}, {Samples.TEXT, LOW}, {Samples.TEXT, HIGH}};
        for (int[] o : out) {
            DUE.noElement(x, o[0], o[1]);
        }
        DUE.is("the last place", x.element(Samples.SHORTS, 2), 300);
        DUE.is("the first place", x.element(Samples.SHORTS, 0), 100);
        DUE.noElement(new BellThatIsADoor(), 7, 0);
        DUE.same("nothing changes", Told.all(x), Told.all(Samples.some()));
    }

    private static void keepNothing() {
        DUE.sentence("keep: what = 0 nothing (the others do not matter)");
        int[][] others = {{0, 0}, {7, 9}, {-1, 0}, {8, 0}, {0, -1}, {0, 10}, {LOW, HIGH}};
        for (int[] o : others) {
            BellThatIsADoor x = Samples.none();
            DUE.is("a ROW goes", x.keep(0, 0, o[0], o[1]), 0);
            DUE.is("nothing is held", x.put(0, 0, 0), -11);
            DUE.is("a KIND goes", x.keep(3, 0, o[0], o[1]), 0);
            DUE.is("nothing is held", x.cost(3), -11);
            DUE.is("nothing stays so", x.keep(4, 0, o[0], o[1]), 0);
            DUE.is("nothing is held", x.cost(4), -11);
            DUE.is("the others stay", x.cost(7), 1);
        }
    }

    private static void keepAKind() {
        DUE.sentence("keep: 1 a KIND of BELL of KIND k (0 .. 7) with a FIGURE (0 .. 9): 0");
        BellThatIsADoor x = new BellThatIsADoor();
        DUE.is("the first of all", x.keep(0, 1, 0, 0), 0);
        DUE.is("the last of all", x.keep(7, 1, 7, 9), 0);
        x.comes(0, 0);
        x.comes(7, 0);
        DUE.is("KIND 0", x.bell(0, 0), 0);
        DUE.is("FIGURE 0", x.bell(0, 1), 0);
        DUE.is("KIND 7", x.bell(1, 0), 7);
        DUE.is("FIGURE 9", x.bell(1, 1), 9);
    }

    private static void keepIsRefused() {
        DUE.sentence("keep: -1");
        int[][] out = {{1, -1, 0}, {1, 8, 0}, {1, 0, -1}, {1, 0, 10}, {1, LOW, 0}, {1, HIGH, 0}, {1, 0, LOW},
            {1, 0, HIGH}, {1, 1, -10}, {1, -1, 10}, {2, 0, 0}, {-1, 0, 0}, {LOW, 0, 0}, {HIGH, 0, 0}};
        for (int[] o : out) {
            for (int d = 0; d < 8; d++) {
                int shelf = d;
                Told.unchanged(DUE, "keep(" + d + ", " + o[0] + ", " + o[1] + ", " + o[2] + ")", Samples::some,
                    x -> x.keep(shelf, o[0], o[1], o[2]), -1);
            }
        }
    }

    private static void comesFromAShelf() {
        DUE.sentence("comes: The one on SHELF d comes to a PLACE: its number");
        BellThatIsADoor x = Samples.none();
        DUE.is("the first", x.comes(Samples.MARBLE, 0), 0);
        DUE.is("another", x.comes(Samples.HEN, 30), 1);
        int[] due = {7, 6, 0, 0, 0};
        for (int what = 0; what < due.length; what++) {
            DUE.is("bell(0, " + what + ")", x.bell(0, what), due[what]);
        }
        DUE.is("PLACE 30", x.bell(1, 2), 30);
    }

    private static void comesIsRefused() {
        DUE.sentence("comes: -1, -11, -12 (a ROW), -2");
        int[][] out = {{Samples.HEN, -1, -1}, {Samples.HEN, 31, -1}, {Samples.HEN, LOW, -1}, {Samples.HEN, HIGH, -1},
            {8, 0, -1}, {-1, 31, -1}, {Samples.NOTHING, 31, -1}, {Samples.TEXT, -1, -1}, {Samples.NOTHING, 0, -11},
            {Samples.TEXT, 0, -12}, {Samples.SHORTS, 0, -12}, {Samples.INTS, 30, -12}};
        for (int[] o : out) {
            String call = "comes(" + o[0] + ", " + o[1] + ")";
            Told.unchanged(DUE, call, Samples::some, x -> x.comes(o[0], o[1]), o[2]);
            Told.unchanged(DUE, call + ", no room", Samples::full, x -> x.comes(o[0], o[1]), o[2]);
        }
    }

    private static void noRoomToCome() {
        DUE.sentence("comes: -2 there is no room");
        Told.unchanged(DUE, "comes(7, 0)", Samples::full, x -> x.comes(Samples.HEN, 0), -2);
        Told.unchanged(DUE, "comes(3, 30)", Samples::full, x -> x.comes(Samples.MARBLE, 30), -2);
        BellThatIsADoor x = Due.marshOf("b2000;b2000;b2000;b2000;b2000;");
        x.keep(1, 1, 6, 9);
        DUE.is("the sixth", x.comes(1, 30), 5);
        DUE.is("the seventh", x.comes(1, 30), -2);
    }

    private static void takenStaysThere() {
        DUE.sentence("what is taken from a SHELF, stay there");
        BellThatIsADoor x = Samples.none();
        String ahead = Told.shelves(x);
        x.comes(Samples.HEN, 0);
        x.comes(Samples.HEN, 1);
        x.comes(Samples.MARBLE, 1);
        DUE.same("comes", Told.shelves(x), ahead);
        DUE.is("three of them", x.count(0), 3);
        x.rings(0);
        x.keep(Samples.HEN, 0, 0, 0);
        DUE.is("who came stays, too", x.bell(0, 0), 2);
        DUE.is("FIGURE", x.bell(0, 1), 3);
        DUE.is("OPENED", x.bell(0, 4), 1);
        DUE.is("the other is another one", x.bell(1, 4), 0);
    }

    private static BellThatIsADoor copied() {
        BellThatIsADoor x = new BellThatIsADoor();
        Due.list(x, 0, 1, 1, 2, 3, 4, 5);
        Due.list(x, 1, 1, 6, 7, 8);
        return x;
    }

    private static void elements(String what, BellThatIsADoor x, int d, int... due) {
        for (int i = 0; i < due.length; i++) {
            DUE.is(what + ": element(" + d + ", " + i + ")", x.element(d, i), due[i]);
        }
        DUE.noElement(x, d, due.length);
    }

    private static void copyOfNone() {
        DUE.sentence("copy: n elements .. : n [n 0]");
        BellThatIsADoor x = copied();
        int[][] places = {{0, 0}, {4, 2}, {5, 3}, {0, 3}, {5, 0}};
        for (int[] p : places) {
            DUE.is("copy(0, " + p[0] + ", 1, " + p[1] + ", 0)", x.copy(0, p[0], 1, p[1], 0), 0);
        }
        elements("none of them", x, 0, 1, 2, 3, 4, 5);
        elements("none of them", x, 1, 6, 7, 8);
        DUE.is("one behind the end", x.copy(0, 6, 1, 0, 0), -13);
        DUE.is("one behind the end", x.copy(0, 0, 1, 4, 0), -13);
        x.row(2, 0, 0);
        x.row(3, 0, 0);
        DUE.is("of none to none", x.copy(2, 0, 3, 0, 0), 0);
        DUE.is("one of none", x.copy(2, 0, 3, 0, 1), -13);
    }

    private static void copyToTheEnd() {
        DUE.sentence("n elements of the ROW in SHELF d from i on come to that in SHELF e from j on: n");
        BellThatIsADoor x = copied();
        DUE.is("the last three", x.copy(0, 2, 1, 0, 3), 3);
        elements("the last three", x, 1, 3, 4, 5);
        elements("from where they stay", x, 0, 1, 2, 3, 4, 5);
        DUE.is("one to the end", x.copy(0, 0, 1, 2, 1), 1);
        elements("one to the end", x, 1, 3, 4, 1);
        DUE.is("one from the end", x.copy(1, 2, 0, 4, 1), 1);
        elements("one from the end", x, 0, 1, 2, 3, 4, 1);
        BellThatIsADoor y = new BellThatIsADoor();
        for (int sort = 0; sort < 3; sort++) {
            y.row(0, sort, 100);
            y.row(1, sort, 100);
            y.put(0, 0, -7);
            y.put(0, 99, 7);
            DUE.is("all 100", y.copy(0, 0, 1, 0, 100), 100);
            DUE.is("the first", y.element(1, 0), -7);
            DUE.is("the last", y.element(1, 99), 7);
            DUE.is("101", y.copy(0, 0, 1, 0, 101), -13);
        }
        y.put(0, 0, 9);
        DUE.is("two ROWS still", y.element(1, 0), -7);
    }

    private static void copyWithinOne() {
        DUE.sentence("n elements of the ROW in SHELF d .. come to that in SHELF e [the same one]");
        BellThatIsADoor x = copied();
        DUE.is("on by one", x.copy(0, 0, 0, 1, 4), 4);
        elements("on by one", x, 0, 1, 1, 2, 3, 4);
        DUE.is("back by two", x.copy(0, 2, 0, 0, 3), 3);
        elements("back by two", x, 0, 2, 3, 4, 3, 4);
        DUE.is("on itself", x.copy(0, 0, 0, 0, 5), 5);
        elements("on itself", x, 0, 2, 3, 4, 3, 4);
        DUE.is("over the end", x.copy(0, 0, 0, 1, 5), -13);
    }

    private static void copyIs(int d, int i, int e, int j, int n, int due) {
        Told.unchanged(DUE, "copy(" + d + ", " + i + ", " + e + ", " + j + ", " + n + ")", Samples::some,
            x -> x.copy(d, i, e, j, n), due);
    }

    private static void copyFromNothing() {
        DUE.sentence("copy: -1, -11 (either)");
        copyIs(Samples.NOTHING, 0, Samples.TEXT, 0, 1, -11);
        copyIs(Samples.TEXT, 0, Samples.NOTHING, 0, 1, -11);
        copyIs(Samples.NOTHING, 0, Samples.NOTHING, 0, 0, -11);
        copyIs(Samples.NOTHING, 0, Samples.HEN, 0, 1, -11);
        copyIs(Samples.HEN, 0, Samples.NOTHING, 0, 1, -11);
        copyIs(Samples.NOTHING, -1, Samples.TEXT, -1, -1, -11);
        copyIs(Samples.TEXT, -1, Samples.NOTHING, 99, -1, -11);
        copyIs(Samples.NOTHING, 0, 8, 0, 1, -1);
        copyIs(-1, 0, Samples.NOTHING, 0, 1, -1);
        copyIs(Samples.HEN, 0, 8, 0, -1, -1);
    }

    private static void copyOfOneSort() {
        DUE.sentence("copy: -12 (no ROWS of one SORT)");
        copyIs(Samples.HEN, 0, Samples.TEXT, 0, 1, -12);
        copyIs(Samples.TEXT, 0, Samples.HEN, 0, 1, -12);
        copyIs(Samples.HEN, 0, Samples.MARBLE, 0, 0, -12);
        copyIs(Samples.HEN, 0, Samples.HEN, 0, 0, -12);
        copyIs(Samples.TEXT, 0, Samples.SHORTS, 0, 1, -12);
        copyIs(Samples.SHORTS, 0, Samples.INTS, 0, 1, -12);
        copyIs(Samples.INTS, 0, Samples.TEXT, 0, 0, -12);
        copyIs(Samples.SHORTS, -1, Samples.INTS, 0, -1, -12);
        copyIs(Samples.HEN, 0, Samples.TEXT, 99, 1, -12);
        BellThatIsADoor x = Samples.some();
        DUE.is("bytes and bytes", x.copy(Samples.TEXT, 0, Samples.LIST, 0, 3), 3);
    }

    private static void copyOfNoPlace() {
        DUE.sentence("copy: -13 (n below 0, too)");
        // TEXT has 10 elements, LIST 3.
        int from = Samples.TEXT;
        int to = Samples.LIST;
        int[][] out = {{0, 0, -1}, {0, 0, LOW}, {0, 0, 4}, {-1, 0, 1}, {-1, 0, 0}, {0, -1, 1}, {0, -1, 0}, {8, 0, 3},
            {10, 0, 1}, {11, 0, 0}, {0, 1, 3}, {0, 3, 1}, {0, 4, 0}, {HIGH, 0, 1}, {HIGH, 0, 0}, {0, HIGH, 1},
            {0, HIGH, 0}, {LOW, 0, 1}, {0, LOW, 1}, {1, 1, HIGH}, {HIGH, HIGH, HIGH}, {LOW, LOW, LOW}, {5, 0, -1},
            {0, 2, -1}, {-1, -1, -1}, {LOW, 0, HIGH}, {0, 0, HIGH}};
        for (int[] o : out) {
            copyIs(from, o[0], to, o[1], o[2], -13);
        }
        BellThatIsADoor x = Samples.some();
        DUE.is("the last three", x.copy(from, 7, to, 0, 3), 3);
        DUE.is("the last one", x.copy(from, 9, to, 2, 1), 1);
    }

    private static void costOfAll() {
        DUE.sentence("COST: BELL 3; DOOR FIGURE more; HEN 1; COUGH twice ..; MAID 4 more ..; SUITED half .., cut; ..");
        int[][] due = {{3, 3, 3, 3, 3, 3, 3, 3, 3, 3}, {3, 4, 5, 6, 7, 8, 9, 10, 11, 12},
            {1, 1, 1, 1, 1, 1, 1, 1, 1, 1}, {6, 8, 10, 12, 14, 16, 18, 20, 22, 24},
            {7, 8, 9, 10, 11, 12, 13, 14, 15, 16}, {3, 4, 4, 5, 5, 6, 6, 7, 7, 8},
            {1, 1, 1, 1, 1, 1, 1, 1, 1, 1}, {6, 9, 12, 15, 18, 21, 24, 27, 30, 33}};
        BellThatIsADoor x = new BellThatIsADoor();
        for (int k = 0; k < 8; k++) {
            for (int f = 0; f <= 9; f++) {
                x.keep(k, 1, k, f);
                DUE.is("KIND " + k + ", FIGURE " + f, x.cost(k), due[k][f]);
            }
        }
    }

    private static void costIsRefused() {
        DUE.sentence("cost: -1, -11, -12 (a ROW)");
        Told.unchanged(DUE, "cost(-1)", Samples::some, x -> x.cost(-1), -1);
        Told.unchanged(DUE, "cost(8)", Samples::some, x -> x.cost(8), -1);
        Told.unchanged(DUE, "cost of nothing", Samples::some, x -> x.cost(Samples.NOTHING), -11);
        for (int sort = 0; sort < 3; sort++) {
            int d = sort;
            Told.unchanged(DUE, "cost of a ROW", Samples::some, x -> x.cost(d), -12);
        }
    }

    private static int toss(int kind, int figure) {
        BellThatIsADoor x = new BellThatIsADoor();
        x.keep(2, 1, kind, figure);
        int caught = x.toss(2);
        DUE.is("what is tossed stays there", x.toss(2), caught);
        return caught;
    }

    private static void failureOfAll() {
        DUE.sentence("FAILURE: its FIGURE; of DOORS 100 more (of those under them, too); of MARBLES 200 plus their COST");
        for (int f = 1; f <= 9; f++) {
            DUE.is("a BELL", toss(0, f), f);
            int[] doors = {1, 3, 4, 5};
            for (int k : doors) {
                DUE.is("KIND " + k + " is a DOOR", toss(k, f), 100 + f);
            }
            DUE.is("a MARBLE", toss(7, f), 206 + 3 * f);
        }
    }

    private static void failureThatIsNone() {
        DUE.sentence("-15: HENS, ECHOES, and any with FIGURE 0, have none");
        for (int k = 0; k < 8; k++) {
            DUE.is("KIND " + k + " with FIGURE 0", toss(k, 0), -15);
        }
        for (int f = 0; f <= 9; f++) {
            DUE.is("a HEN with FIGURE " + f, toss(2, f), -15);
            DUE.is("an ECHO with FIGURE " + f, toss(6, f), -15);
        }
    }

    private static void tossIsRefused() {
        DUE.sentence("toss: -1, -11, -12 (a ROW); -15");
        Told.unchanged(DUE, "toss(-1)", Samples::some, x -> x.toss(-1), -1);
        Told.unchanged(DUE, "toss(8)", Samples::some, x -> x.toss(8), -1);
        Told.unchanged(DUE, "toss of nothing", Samples::some, x -> x.toss(Samples.NOTHING), -11);
        Told.unchanged(DUE, "toss of a HEN", Samples::some, x -> x.toss(Samples.HEN), -15);
        for (int sort = 0; sort < 3; sort++) {
            int d = sort;
            Told.unchanged(DUE, "toss of a ROW", Samples::some, x -> x.toss(d), -12);
        }
    }

    private static void nothingChanges() {
        DUE.sentence("[COST, the FAILURE, an element are asked for:] nothing changes");
        Told.unchanged(DUE, "cost", Samples::some, x -> x.cost(Samples.MARBLE), 24);
        Told.unchanged(DUE, "toss", Samples::some, x -> x.toss(Samples.MARBLE), 224);
        Told.unchanged(DUE, "element", Samples::some, x -> x.element(Samples.INTS, 1), 70000);
    }
}
