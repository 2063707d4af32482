/** Promises 22 to 26: feet, odds, run, mean, nearest. */
public final class FeetOddsBoysTest {
    private static final Due DUE = new Due("FeetOddsBoysTest");
    private static final long NO = 1000000001L;

    public static void main(String[] args) {
        feet();
        oddsOfOpening();
        refusedOdds();
        boysRun();
        meanOfSteps();
        nearestBell();
        DUE.end();
    }

    private static void feet() {
        int[] wins = {1, 0, 1, 1, 1, 0, 1, 1, 1, 0, 1};
        int[] takes = {0, 0, 1, 2, 3, 0, 1, 2, 3, 0, 1};
        for (int n = 0; n < wins.length; n++) {
            DUE.is("feet(" + n + ", 3, 0)", new BellThatIsADoor().feet(n, 3, 0), wins[n]);
            DUE.is("feet(" + n + ", 3, 1)", new BellThatIsADoor().feet(n, 3, 1), takes[n]);
        }
        BellThatIsADoor x = new BellThatIsADoor();
        DUE.is("feet(99, 1, 0)", x.feet(99, 1, 0), 0);
        DUE.is("feet(98, 1, 0)", x.feet(98, 1, 0), 1);
        DUE.is("feet(98, 1, 1)", x.feet(98, 1, 1), 1);
        DUE.is("feet(99, 9, 1)", x.feet(99, 9, 1), 8);
        DUE.is("feet(91, 9, 0)", x.feet(91, 9, 0), 0);
        DUE.is("feet(0, 9, 1)", x.feet(0, 9, 1), 0);
        DUE.is("feet(5, 9, 1) leaves one", x.feet(5, 9, 1), 4);
        int[][] refused = {{-1, 3, 0}, {100, 3, 0}, {5, 0, 0}, {5, 10, 0}, {5, 3, 2}, {5, 3, -1}, {5, -1, 1}};
        for (int[] r : refused) {
            DUE.is("feet(" + r[0] + ", " + r[1] + ", " + r[2] + ")", x.feet(r[0], r[1], r[2]), -1);
        }
    }

    private static void fraction(BellThatIsADoor x, int b, int n, int t, long above, long below) {
        String call = "odds(" + b + ", " + n + ", " + t + ", ";
        DUE.is(call + "0)", x.odds(b, n, t, 0), above);
        DUE.is(call + "1)", x.odds(b, n, t, 1), below);
    }

    private static void oddsOfOpening() {
        BellThatIsADoor x = Due.marshOf("b0900;b5000;b3900;b7900;b2000;");
        fraction(x, 0, 0, 2, 0, 1);
        fraction(x, 0, 1, 20, 19, 20);
        fraction(x, 0, 2, 2, 3, 4);
        fraction(x, 0, 8, 20, 25599999999L, 25600000000L);
        fraction(x, 1, 1, 2, 0, 1);
        fraction(x, 1, 2, 2, 1, 4);
        fraction(x, 1, 3, 2, 3, 8);
        fraction(x, 1, 2, 3, 4, 9);
        fraction(x, 2, 4, 2, 0, 1);
        fraction(x, 2, 5, 2, 1, 32);
        fraction(x, 3, 8, 20, 0, 1);
        fraction(x, 4, 3, 4, 63, 64);
        // RUNG 4 and 1: the first ring opens, or five behind it do.
        for (int i = 0; i < 4; i++) {
            x.rings(2);
        }
        fraction(x, 2, 1, 2, 1, 2);
        fraction(x, 2, 5, 2, 1, 2);
        fraction(x, 2, 6, 2, 33, 64);
        DUE.is("RUNG stays", x.bell(2, 3), 4);
        for (int i = 0; i < 9; i++) {
            x.rings(3);
        }
        DUE.is("a MARBLE's RUNG 9", x.bell(3, 3), 9);
        fraction(x, 3, 1, 10, 9, 10);
    }

    private static void refusedOdds() {
        BellThatIsADoor x = Due.marshOf("b0900;");
        int[][] refused = {{1, 1, 2, 0}, {-1, 1, 2, 0}, {0, -1, 2, 0}, {0, 9, 2, 0}, {0, 1, 1, 0}, {0, 1, 0, 0},
            {0, 1, 21, 0}, {0, 1, 2, 2}, {0, 1, 2, -1}, {0, 1, -2, 1}};
        for (int[] r : refused) {
            DUE.is("odds(" + r[0] + ", " + r[1] + ", " + r[2] + ", " + r[3] + ")", x.odds(r[0], r[1], r[2], r[3]), NO);
        }
    }

    private static void boysRun() {
        BellThatIsADoor none = new BellThatIsADoor();
        DUE.is("run(0) of none", none.run(0), 0);
        DUE.is("run(1) of none", none.run(1), 0);
        // At 8: BELL 3 opens with 4, DOOR 3 is 3 of 6, HEN opens with 0, MAID 8 is 5 of 11 cut to 2 of 5, COUGH 9 is 4 of 24.
        BellThatIsADoor x = Due.marshOf("b0300;b1300;b2300;b4800;b3900;b5300;");
        DUE.is("how many open", x.run(0), 2);
        DUE.is("all that is HEARD", x.run(1), 4 + 3 + 0 + 2 + 4);
        DUE.is("nothing was OPENED", x.count(4), 0);
        DUE.is("nothing was RUNG", x.count(3), 0);
        x.rings(1);
        DUE.is("RUNG counts", x.run(0), 3);
        DUE.is("the DOOR opens with 6", x.run(1), 4 + 6 + 0 + 2 + 4);
        DUE.is("run(2)", x.run(2), -1);
        DUE.is("run(-1)", x.run(-1), -1);
    }

    private static void meanOfSteps() {
        BellThatIsADoor none = new BellThatIsADoor();
        DUE.is("mean(0) of none", none.mean(0), 0);
        DUE.is("mean(1) of none", none.mean(1), 1);
        BellThatIsADoor x = Due.marshOf("b0300;b2000;b6000;b1400;");
        DUE.is("4, 0, 9 and 7 by 4", x.mean(0), 5);
        DUE.is("in least terms", x.mean(1), 1);
        BellThatIsADoor one = Due.marshOf("b0200;");
        DUE.is("3 by 1", one.mean(0), 3);
        DUE.is("3 by 1", one.mean(1), 1);
        BellThatIsADoor two = Due.marshOf("b0300;b0000;b0000;b2000;");
        DUE.is("6 by 4", two.mean(0), 3);
        DUE.is("3 by 2", two.mean(1), 2);
        BellThatIsADoor hens = Due.marshOf("b2000;b2000;");
        DUE.is("0 by 2", hens.mean(0), 0);
        DUE.is("0 by 1", hens.mean(1), 1);
        DUE.is("mean(2)", x.mean(2), NO);
        DUE.is("mean(-1)", x.mean(-1), NO);
    }

    private static void nearestBell() {
        BellThatIsADoor none = new BellThatIsADoor();
        DUE.is("nearest of none", none.nearest(0, 0), -4);
        DUE.is("how far of none", none.nearest(30, 1), -4);
        DUE.is("a wrong PLACE is told ahead", none.nearest(31, 0), -1);
        BellThatIsADoor x = Due.marshOf("b0030;b0010;b0020;b0010;");
        DUE.is("nearest(0, 0)", x.nearest(0, 0), 1);
        DUE.is("nearest(0, 1)", x.nearest(0, 1), 10);
        DUE.is("of 10 and 20 the first to come", x.nearest(15, 0), 1);
        DUE.is("of 30 and 20 the first to come", x.nearest(25, 0), 0);
        DUE.is("5", x.nearest(25, 1), 5);
        DUE.is("nearest(30, 0)", x.nearest(30, 0), 0);
        DUE.is("none far", x.nearest(30, 1), 0);
        DUE.is("30 far", Due.marshOf("b2000;").nearest(30, 1), 30);
        DUE.is("30 far", Due.marshOf("b2000;").nearest(30, 0), 0);
        DUE.is("nearest(-1, 0)", x.nearest(-1, 0), -1);
        DUE.is("nearest(31, 0)", x.nearest(31, 0), -1);
        DUE.is("nearest(0, 2)", x.nearest(0, 2), -1);
        DUE.is("nearest(0, -1)", x.nearest(0, -1), -1);
    }
}
