/** Promises 30 to 32: image, restore, count. */
public final class ImageTest {
    private static final Due DUE = new Due("ImageTest");

    public static void main(String[] args) {
        allComesBack();
        shelvesStay();
        ofNothing();
        whatIsCounted();
        DUE.end();
    }

    private static void allComesBack() {
        BellThatIsADoor x = Due.marshOf("b3905;b2010;h99;h61;r0;r1;");
        DUE.is("no IMAGE yet", x.restore(), -3);
        DUE.is("HOUR 0 of DAY 7", x.image(), 7);
        long[] ahead = told(x);
        x.moves(0, 6);
        x.rings(0);
        x.rings(1);
        x.hours(50);
        Due.text(x, "b0000;h99;");
        DUE.is("restore()", x.restore(), 7);
        same(told(x), ahead);
        x.rings(0);
        x.moves(1, 0);
        DUE.is("THE IMAGE is still there", x.restore(), 7);
        same(told(x), ahead);
        x.hours(24);
        DUE.is("another IMAGE", x.image(), 8);
        x.hours(24);
        DUE.is("in place of the first", x.restore(), 8);
        DUE.is("a third BELL comes", Due.text(x, "b2000;"), 1);
        DUE.is("three BELLS", x.count(0), 3);
        x.restore();
        DUE.is("two BELLS", x.count(0), 2);
        DUE.is("no third BELL", x.bell(2, 0), -1);
    }

    private static long[] told(BellThatIsADoor x) {
        long[] all = new long[22];
        for (int what = 0; what < 8; what++) {
            all[what] = x.bell(0, what);
            all[8 + what] = x.bell(1, what);
        }
        for (int what = 0; what < 6; what++) {
            all[16 + what] = x.count(what);
        }
        return all;
    }

    private static void same(long[] got, long[] want) {
        for (int i = 0; i < want.length; i++) {
            DUE.is("what is told, the " + i + ". number", got[i], want[i]);
        }
    }

    private static void shelvesStay() {
        BellThatIsADoor x = Due.marshOf("b2000;");
        Due.list(x, 1, 2, 7, 8);
        x.image();
        x.put(1, 0, 9);
        x.keep(2, 1, 7, 9);
        x.restore();
        DUE.is("the ROW stays", x.element(1, 0), 9);
        DUE.is("the KIND stays", x.cost(2), 33);
        DUE.is("the text stays", x.marsh(0), 1);
    }

    private static void ofNothing() {
        BellThatIsADoor x = new BellThatIsADoor();
        DUE.is("the IMAGE of nothing", x.image(), 0);
        Due.text(x, "b2000;r0;h48;");
        DUE.is("nothing again", x.restore(), 0);
        DUE.is("no BELLS", x.count(0), 0);
        DUE.is("HOUR 8", x.count(1), 8);
    }

    private static void whatIsCounted() {
        BellThatIsADoor x = Due.marshOf("b3900;b7900;b2000;r0;r0;r1;r2;r2;r2;h96;h09;");
        DUE.is("BELLS", x.count(0), 3);
        DUE.is("HOUR", x.count(1), 17);
        DUE.is("DAY", x.count(2), 4);
        DUE.is("all RUNG", x.count(3), 3);
        DUE.is("all OPENED", x.count(4), 3);
        DUE.is("all STEPS", x.count(5), 24 + 25);
        DUE.is("count(6)", x.count(6), -1);
        DUE.is("count(-1)", x.count(-1), -1);
    }
}
