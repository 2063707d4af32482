/** Promises 33 to 39: keep, row, put, element, copy, cost, toss. */
public final class ShelvesTest {
    private static final Due DUE = new Due("ShelvesTest");
    private static final int[] FAR = {-1, 8, Integer.MIN_VALUE, Integer.MAX_VALUE};

    public static void main(String[] args) {
        kinds();
        rows();
        putAndElement();
        copies();
        refusedCopies();
        costs();
        failures();
        DUE.end();
    }

    private static void kinds() {
        BellThatIsADoor x = new BellThatIsADoor();
        DUE.is("keep", x.keep(0, 1, 7, 9), 0);
        DUE.is("a MARBLE", x.cost(0), 33);
        int[][] refused = {{0, 1, 8, 0}, {0, 1, -1, 0}, {0, 1, 0, 10}, {0, 1, 0, -1}, {0, 2, 0, 0}, {0, -1, 0, 0}};
        for (int[] r : refused) {
            DUE.is("keep(" + r[0] + ", " + r[1] + ", " + r[2] + ", " + r[3] + ")", x.keep(r[0], r[1], r[2], r[3]), -1);
            DUE.is("it stays", x.cost(0), 33);
        }
        for (int d : FAR) {
            DUE.is("keep on shelf " + d, x.keep(d, 0, 0, 0), -1);
            DUE.is("keep a KIND on shelf " + d, x.keep(d, 1, 0, 0), -1);
        }
        DUE.is("nothing, whatever the others are", x.keep(0, 0, -5, 77), 0);
        DUE.is("nothing is held", x.cost(0), -11);
        x.row(0, 0, 5);
        DUE.is("a KIND in place of a ROW", x.keep(0, 1, 0, 0), 0);
        DUE.is("no ROW is held", x.put(0, 0, 0), -12);
        DUE.is("a ROW in place of a KIND", x.row(0, 0, 5), 0);
        DUE.is("no KIND is held", x.cost(0), -12);
        DUE.is("nothing in place of a ROW", x.keep(0, 0, 0, 0), 0);
        DUE.is("no ROW is held", x.put(0, 0, 0), -11);
    }

    private static void rows() {
        BellThatIsADoor x = new BellThatIsADoor();
        for (int sort = 0; sort < 3; sort++) {
            DUE.is("100 elements", x.row(sort, sort, 100), 0);
            DUE.is("0 at first", x.element(sort, 99), 0);
            x.put(sort, 0, 5);
            DUE.is("another ROW", x.row(sort, sort, 1), 0);
            DUE.is("0 at first again", x.element(sort, 0), 0);
            DUE.noElement(x, sort, 1);
        }
        DUE.is("no elements", x.row(3, 0, 0), 0);
        DUE.noElement(x, 3, 0);
        DUE.is("101 elements", x.row(0, 0, 101), -1);
        DUE.is("SORT 3", x.row(0, 3, 1), -1);
        DUE.is("SORT -1", x.row(0, -1, 1), -1);
        DUE.is("a size below 0", x.row(0, 0, -1), -14);
        DUE.is("far below 0", x.row(0, 2, Integer.MIN_VALUE), -14);
        DUE.is("SORT 3 is told ahead of a size below 0", x.row(0, 3, -1), -1);
        for (int d : FAR) {
            DUE.is("row on shelf " + d, x.row(d, 0, 1), -1);
            DUE.is("no shelf is told ahead of a size below 0", x.row(d, 0, -1), -1);
        }
        DUE.is("the ROW stays", x.element(0, 0), 0);
    }

    private static void putAndElement() {
        BellThatIsADoor x = new BellThatIsADoor();
        int[] values = {0, 127, 128, 255, 256, -1, -129, 32767, 32768, 65536, 70000, Integer.MAX_VALUE, Integer.MIN_VALUE};
        int[] bytes = {0, 127, -128, -1, 0, -1, 127, -1, 0, 0, 112, -1, 0};
        int[] shorts = {0, 127, 128, 255, 256, -1, -129, 32767, -32768, 0, 4464, -1, 0};
        int[][] due = {bytes, shorts, values};
        for (int sort = 0; sort < 3; sort++) {
            x.row(sort, sort, 3);
            for (int i = 0; i < values.length; i++) {
                DUE.is("put " + values[i], x.put(sort, 1, values[i]), 0);
                DUE.is("SORT " + sort + " of " + values[i], x.element(sort, 1), due[sort][i]);
            }
            DUE.is("the one ahead", x.element(sort, 0), 0);
            DUE.is("the one behind", x.element(sort, 2), 0);
            DUE.is("put at -1", x.put(sort, -1, 1), -13);
            DUE.is("put at 3", x.put(sort, 3, 1), -13);
            DUE.is("put far off", x.put(sort, Integer.MIN_VALUE, 1), -13);
            DUE.noElement(x, sort, -1);
            DUE.noElement(x, sort, 3);
        }
        x.keep(4, 1, 1, 1);
        DUE.is("put to a KIND", x.put(4, 0, 1), -12);
        DUE.is("put to nothing", x.put(5, -1, 1), -11);
        DUE.noElement(x, 4, 0);
        DUE.noElement(x, 5, 0);
        for (int d : FAR) {
            DUE.is("put to shelf " + d, x.put(d, 0, 1), -1);
            DUE.noShelf(x, d, 0);
        }
    }

    private static void copies() {
        BellThatIsADoor x = new BellThatIsADoor();
        Due.list(x, 0, 1, 1, 2, 3, 4, 5);
        Due.list(x, 1, 1, 9, 9, 9);
        DUE.is("three of five", x.copy(0, 2, 1, 0, 3), 3);
        elements(x, 1, 3, 4, 5);
        DUE.is("none of them", x.copy(0, 5, 1, 3, 0), 0);
        elements(x, 1, 3, 4, 5);
        DUE.is("one to the end", x.copy(0, 0, 1, 2, 1), 1);
        elements(x, 1, 3, 4, 1);
        DUE.is("within one ROW, on", x.copy(0, 0, 0, 1, 4), 4);
        elements(x, 0, 1, 1, 2, 3, 4);
        DUE.is("within one ROW, back", x.copy(0, 1, 0, 0, 4), 4);
        elements(x, 0, 1, 2, 3, 4, 4);
        DUE.is("all on itself", x.copy(0, 0, 0, 0, 5), 5);
        elements(x, 0, 1, 2, 3, 4, 4);
        x.row(3, 2, 0);
        DUE.is("none of none", x.copy(3, 0, 3, 0, 0), 0);
    }

    private static void elements(BellThatIsADoor x, int d, int... due) {
        for (int i = 0; i < due.length; i++) {
            DUE.is("element(" + d + ", " + i + ")", x.element(d, i), due[i]);
        }
    }

    private static void refusedCopies() {
        BellThatIsADoor x = new BellThatIsADoor();
        Due.list(x, 0, 1, 1, 2, 3);
        Due.list(x, 1, 1, 4, 5);
        Due.list(x, 2, 2, 6, 7);
        x.keep(3, 1, 0, 0);
        for (int d : FAR) {
            DUE.is("from shelf " + d, x.copy(d, 0, 4, 0, 1), -1);
            DUE.is("to shelf " + d, x.copy(4, 0, d, 0, 1), -1);
        }
        DUE.is("from nothing to a KIND", x.copy(4, 0, 3, 0, 1), -11);
        DUE.is("from a KIND to nothing", x.copy(3, 0, 4, 0, 1), -11);
        DUE.is("from a KIND", x.copy(3, 0, 0, 0, 1), -12);
        DUE.is("to a KIND", x.copy(0, 0, 3, 0, 1), -12);
        DUE.is("to another SORT", x.copy(0, 0, 2, 0, 1), -12);
        DUE.is("another SORT is told ahead of a place", x.copy(0, 9, 2, 0, 1), -12);
        int[][] places = {{-1, 0, 1}, {0, -1, 1}, {0, 0, -1}, {0, 0, 3}, {2, 0, 2}, {0, 1, 2}, {4, 0, 0}, {0, 3, 0},
            {1, 0, Integer.MAX_VALUE}, {Integer.MAX_VALUE, 0, 1}, {0, Integer.MAX_VALUE, Integer.MAX_VALUE},
            {Integer.MIN_VALUE, 0, 1}, {0, 0, Integer.MIN_VALUE}};
        for (int[] p : places) {
            DUE.is("copy(0, " + p[0] + ", 1, " + p[1] + ", " + p[2] + ")", x.copy(0, p[0], 1, p[1], p[2]), -13);
        }
        elements(x, 0, 1, 2, 3);
        elements(x, 1, 4, 5);
        elements(x, 2, 6, 7);
    }

    private static void costs() {
        BellThatIsADoor x = new BellThatIsADoor();
        for (int f = 0; f <= 9; f++) {
            int[] due = {3, 3 + f, 1, 6 + 2 * f, 7 + f, (7 + f) / 2, 1, 6 + 3 * f};
            for (int k = 0; k < 8; k++) {
                x.keep(1, 1, k, f);
                DUE.is("cost of KIND " + k + ", FIGURE " + f, x.cost(1), due[k]);
            }
        }
        x.row(1, 0, 1);
        DUE.is("cost of a ROW", x.cost(1), -12);
        DUE.is("cost of nothing", x.cost(2), -11);
        for (int d : FAR) {
            DUE.is("cost of shelf " + d, x.cost(d), -1);
        }
    }

    private static void failures() {
        BellThatIsADoor x = new BellThatIsADoor();
        for (int f = 0; f <= 9; f++) {
            int[] due = {f, 100 + f, -15, 100 + f, 100 + f, 100 + f, -15, 206 + 3 * f};
            for (int k = 0; k < 8; k++) {
                x.keep(1, 1, k, f);
                DUE.is("toss of KIND " + k + ", FIGURE " + f, x.toss(1), f == 0 ? -15 : due[k]);
            }
        }
        x.row(1, 0, 1);
        DUE.is("toss of a ROW", x.toss(1), -12);
        DUE.is("toss of nothing", x.toss(2), -11);
        for (int d : FAR) {
            DUE.is("toss of shelf " + d, x.toss(d), -1);
        }
    }
}
