/** A test for each sentence that names a bound of FEET, ODDS, RUN, MEAN STEPS, NEAREST (promises 22 to 26). */
public final class BoundsOfFeetTest {
    private static final Due DUE = new Due("BoundsOfFeetTest");
    private static final long NO = 1000000001L;
    private static final int[] NO_WHAT = {-1, 2, Integer.MIN_VALUE, Integer.MAX_VALUE};

    public static void main(String[] args) {
        stepsRange();
        takenRange();
        lastOneLoses();
        noneIsLeft();
        leastThatWins();
        feetAreRefused();
        hoursOfOdds();
        oddsInTwenty();
        byItself();
        whateverTheHour();
        oddsWithRung();
        someOfThem();
        leastTerms();
        oddsAreRefused();
        ringOnceEach();
        runOfNone();
        openedLessHundred();
        runIsRefused();
        meanOfNone();
        meanInLeastTerms();
        meanIsRefused();
        nearestOfSeveral();
        howFar();
        nearestOfNone();
        nearestIsRefused();
        nothingChanges();
        DUE.end();
    }

    private static void feet(int n, int k, int wins, int takes) {
        BellThatIsADoor x = new BellThatIsADoor();
        DUE.is("feet(" + n + ", " + k + ", 0)", x.feet(n, k, 0), wins);
        DUE.is("feet(" + n + ", " + k + ", 1)", x.feet(n, k, 1), takes);
    }

    private static void stepsRange() {
        DUE.sentence("FEET: .. from n STEPS (0 .. 99)");
        feet(-1, 3, -1, -1);
        feet(0, 3, 1, 0);
        feet(99, 3, 1, 2);
        feet(100, 3, -1, -1);
    }

    private static void takenRange() {
        DUE.sentence("each takes 1 .. k (1 .. 9) away");
        feet(10, 0, -1, -1);
        feet(10, 1, 1, 1);
        feet(11, 1, 0, 0);
        feet(10, 9, 1, 9);
        feet(11, 9, 0, 0);
        feet(10, 8, 0, 0);
        feet(10, 10, -1, -1);
    }

    private static void lastOneLoses() {
        DUE.sentence("who takes the last one loses");
        for (int k = 1; k <= 9; k++) {
            feet(1, k, 0, 0);
            feet(2, k, 1, 1);
            feet(k + 1, k, 1, k);
            feet(k + 2, k, 0, 0);
        }
    }

    private static void noneIsLeft() {
        DUE.sentence("(none is left: who should take has won)");
        for (int k = 1; k <= 9; k++) {
            feet(0, k, 1, 0);
        }
    }

    private static void leastThatWins() {
        DUE.sentence("1 if the suitor wins, else 0; how many he takes then (the least that wins; 0 none)");
        for (int k = 1; k <= 9; k++) {
            boolean[] wins = new boolean[100];
            for (int n = 0; n <= 99; n++) {
                int takes = 0;
                for (int t = Math.min(k, n); t >= 1; t--) {
                    takes = wins[n - t] ? takes : t;
                }
                wins[n] = n == 0 || takes > 0;
                feet(n, k, wins[n] ? 1 : 0, takes);
            }
        }
    }

    private static void feetAreRefused() {
        DUE.sentence("feet: -1");
        int[][] out = {{-1, 1, 0}, {100, 9, 1}, {0, 0, 0}, {99, 10, 0}, {5, -1, 1}, {Integer.MIN_VALUE, 3, 0},
            {Integer.MAX_VALUE, 3, 0}, {5, Integer.MAX_VALUE, 0}, {5, Integer.MIN_VALUE, 1}};
        for (int[] o : out) {
            Told.unchanged(DUE, "feet(" + o[0] + ", " + o[1] + ", " + o[2] + ")", Samples::some,
                x -> x.feet(o[0], o[1], o[2]), -1);
        }
        for (int what : NO_WHAT) {
            Told.unchanged(DUE, "feet(5, 3, " + what + ")", Samples::some, x -> x.feet(5, 3, what), -1);
        }
    }

    private static void odds(BellThatIsADoor x, int b, int n, int t, long above, long below) {
        DUE.is("odds(" + b + ", " + n + ", " + t + ", 0)", x.odds(b, n, t, 0), above);
        DUE.is("odds(" + b + ", " + n + ", " + t + ", 1)", x.odds(b, n, t, 1), below);
    }

    private static void hoursOfOdds() {
        DUE.sentence("ODDS: in each of n HOURS (0 .. 8)");
        BellThatIsADoor x = Due.marshOf("b2000;b1000;");
        odds(x, 0, -1, 2, NO, NO);
        odds(x, 0, 0, 2, 0, 1);
        odds(x, 0, 1, 2, 1, 2);
        odds(x, 0, 8, 2, 255, 256);
        odds(x, 0, 9, 2, NO, NO);
        odds(x, 1, 0, 20, 0, 1);
        odds(x, 1, 1, 20, 0, 1);
    }

    private static void oddsInTwenty() {
        DUE.sentence("she is HOME with odds t - 1 in t (2 .. 20)");
        BellThatIsADoor x = Due.marshOf("b2000;");
        odds(x, 0, 1, 1, NO, NO);
        odds(x, 0, 1, 2, 1, 2);
        odds(x, 0, 1, 3, 2, 3);
        odds(x, 0, 1, 20, 19, 20);
        odds(x, 0, 8, 20, 25599999999L, 25600000000L);
        odds(x, 0, 1, 21, NO, NO);
        odds(x, 0, 0, 1, NO, NO);
        odds(x, 0, 0, 21, NO, NO);
    }

    private static void byItself() {
        DUE.sentence("in each of n HOURS, by itself [nobody HOME: RUNG is 0]");
        BellThatIsADoor x = Due.marshOf("b1000;b3900;b7900;b6900;");
        // Two HOURS of n one behind the other; of 3: 110, 011, 111.
        odds(x, 0, 2, 2, 1, 4);
        odds(x, 0, 3, 2, 3, 8);
        odds(x, 0, 4, 2, 1, 2);
        odds(x, 1, 5, 2, 1, 32);
        odds(x, 1, 6, 2, 3, 64);
        odds(x, 2, 8, 2, 0, 1);
        odds(x, 3, 5, 20, 2476099, 3200000);
    }

    private static void whateverTheHour() {
        DUE.sentence("whatever the HOUR");
        BellThatIsADoor x = Due.marshOf("b5000;b0900;b1000;h04;");
        for (int i = 0; i < 24; i++) {
            odds(x, 0, 8, 2, 201, 256);
            odds(x, 1, 2, 3, 8, 9);
            odds(x, 2, 2, 3, 4, 9);
            x.hours(1);
        }
    }

    private static void oddsWithRung() {
        DUE.sentence("how likely it opens [RUNG as it is now]");
        BellThatIsADoor x = Due.marshOf("b1000;b7900;r0;r1;r1;");
        odds(x, 0, 0, 2, 0, 1);
        odds(x, 0, 1, 2, 1, 2);
        odds(x, 0, 2, 2, 1, 2);
        odds(x, 0, 3, 2, 5, 8);
        odds(x, 1, 7, 2, 0, 1);
        odds(x, 1, 8, 2, 1, 256);
        Due.text(x, "r1;r1;r1;r1;r1;r1;r1;");
        DUE.is("RUNG 9", x.bell(1, 3), 9);
        odds(x, 1, 0, 20, 0, 1);
        odds(x, 1, 1, 20, 19, 20);
        odds(x, 1, 8, 20, 19, 20);
    }

    private static void someOfThem() {
        DUE.sentence("one rings in each: how likely it opens in some of them");
        BellThatIsADoor x = Due.marshOf("b2000;b3300;");
        odds(x, 0, 2, 2, 3, 4);
        odds(x, 0, 3, 3, 26, 27);
        odds(x, 1, 3, 3, 8, 27);
        odds(x, 1, 4, 3, 32, 81);
        BellThatIsADoor come = new BellThatIsADoor();
        come.keep(0, 1, 1, 5);
        come.comes(0, 0);
        odds(come, 0, 2, 3, 4, 9);
    }

    private static void leastTerms() {
        DUE.sentence("a fraction in least terms");
        BellThatIsADoor x = Due.marshOf("b1000;b2000;");
        odds(x, 0, 4, 2, 1, 2);
        odds(x, 0, 2, 4, 9, 16);
        odds(x, 0, 3, 4, 45, 64);
        odds(x, 0, 1, 6, 0, 1);
        odds(x, 1, 1, 10, 9, 10);
    }

    private static void oddsAreRefused() {
        DUE.sentence("odds: part 0 above, 1 below the line. Refused as told: -1 (-1 is told as 1000000001)");
        int[][] out = {{-1, 1, 2}, {3, 1, 2}, {6, 1, 2}, {0, -1, 2}, {0, 9, 2}, {0, 1, 1}, {0, 1, 21}, {0, 1, 0},
            {0, 1, -2}, {0, Integer.MIN_VALUE, 2}, {0, Integer.MAX_VALUE, 2}, {0, 1, Integer.MAX_VALUE},
            {Integer.MAX_VALUE, 1, 2}, {Integer.MIN_VALUE, 1, 2}};
        for (int[] o : out) {
            for (int part = 0; part < 2; part++) {
                int p = part;
                Told.unchanged(DUE, "odds(" + o[0] + ", " + o[1] + ", " + o[2] + ", " + p + ")", Samples::some,
                    x -> x.odds(o[0], o[1], o[2], p), NO);
            }
        }
        for (int part : NO_WHAT) {
            Told.unchanged(DUE, "odds(0, 1, 2, " + part + ")", Samples::some, x -> x.odds(0, 1, 2, part), NO);
        }
        DUE.is("no BELLS", new BellThatIsADoor().odds(0, 0, 2, 0), NO);
    }

    private static void run(String what, BellThatIsADoor x, int open, int heard) {
        DUE.is(what + ": how many open", x.run(0), open);
        DUE.is(what + ": HEARD", x.run(1), heard);
    }

    private static void ringOnceEach() {
        DUE.sentence("RUN: boys ring all BELLS once each at HOUR");
        run("six HENS", Due.marshOf("b2000;b2000;b2000;b2000;b2000;b2000;"), 6, 0);
        BellThatIsADoor x = Due.marshOf("b0000;b0900;b1000;");
        run("at 8", x, 1, 1 + 0 + 1);
        x.rings(2);
        run("a DOOR with RUNG 1", x, 2, 1 + 0 + 3);
        run("and again: no HOUR went by, nothing was RUNG", x, 2, 4);
        x.hours(4);
        run("at 12", x, 1, 0 + 10 + 0);
        x.hours(11);
        run("at 23", x, 0, 0);
        x.hours(1);
        run("at 0, RUNG still 1", x, 2, 1 + 0 + 3);
    }

    private static void runOfNone() {
        DUE.sentence("how many open; all that is HEARD together [of none]");
        run("no BELLS", new BellThatIsADoor(), 0, 0);
        run("SUITED", Due.marshOf("b5900;b5900;"), 0, 0);
    }

    private static void openedLessHundred() {
        DUE.sentence("all that is HEARD together (what opened less 100)");
        run("a MARBLE that opens", Due.marshOf("b7900;r0;r0;r0;r0;r0;r0;r0;r0;r0;"), 1, 25);
        run("one that does not", Due.marshOf("b7900;r0;r0;r0;r0;r0;r0;r0;r0;"), 0, 22);
        run("a HEN and a BELL", Due.marshOf("b2900;b0800;"), 2, 9);
        run("a COUGH beside a HEN", Due.marshOf("b2900;b3900;"), 1, 4);
    }

    private static void runIsRefused() {
        DUE.sentence("run: -1");
        for (int what : NO_WHAT) {
            Told.unchanged(DUE, "run(" + what + ")", Samples::some, x -> x.run(what), -1);
        }
        DUE.is("no BELLS, what 2", new BellThatIsADoor().run(2), -1);
    }

    private static void mean(String what, BellThatIsADoor x, long above, long below) {
        DUE.is(what + ": above", x.mean(0), above);
        DUE.is(what + ": below", x.mean(1), below);
    }

    private static void meanOfNone() {
        DUE.sentence("MEAN STEPS: .. (0 by 1 of none)");
        mean("no BELLS", new BellThatIsADoor(), 0, 1);
        mean("HENS", Due.marshOf("b2000;b2000;b2000;"), 0, 1);
    }

    private static void meanInLeastTerms() {
        DUE.sentence("MEAN STEPS: of all: a fraction in least terms");
        mean("one", Due.marshOf("b0900;"), 10, 1);
        mean("1 and 0", Due.marshOf("b0000;b2000;"), 1, 2);
        mean("2 and 0", Due.marshOf("b0100;b2000;"), 1, 1);
        mean("25 and five of 0", Due.marshOf("b7900;b2000;b2000;b2000;b2000;b2000;"), 25, 6);
        mean("six MARBLES", Due.marshOf("b7900;b7900;b7900;b7900;b7900;b7900;"), 25, 1);
        mean("10, 0, 0, 0", Due.marshOf("b0900;b2000;b2000;b2000;"), 5, 2);
    }

    private static void meanIsRefused() {
        DUE.sentence("mean: part likewise. Refused as told: -1");
        for (int part : NO_WHAT) {
            Told.unchanged(DUE, "mean(" + part + ")", Samples::some, x -> x.mean(part), NO);
        }
        DUE.is("no BELLS, part 2", new BellThatIsADoor().mean(2), NO);
    }

    private static void nearest(String what, BellThatIsADoor x, int place, int one, int far) {
        DUE.is(what + ": the one", x.nearest(place, 0), one);
        DUE.is(what + ": how far", x.nearest(place, 1), far);
    }

    private static void nearestOfSeveral() {
        DUE.sentence("NEAREST: the BELL nearest to a PLACE, of several the least");
        BellThatIsADoor x = Due.marshOf("b2030;b2010;b2020;b2010;b2000;b2000;");
        nearest("at 0", x, 0, 4, 0);
        nearest("at 5, both sides", x, 5, 1, 5);
        nearest("at 4", x, 4, 4, 4);
        nearest("at 6", x, 6, 1, 4);
        nearest("at 15, both sides", x, 15, 1, 5);
        nearest("at 16", x, 16, 2, 4);
        nearest("at 25, both sides", x, 25, 0, 5);
        nearest("at 30", x, 30, 0, 0);
    }

    private static void howFar() {
        DUE.sentence("how far (0 .. 30)");
        BellThatIsADoor x = Due.marshOf("b5000;");
        nearest("there", x, 0, 0, 0);
        nearest("farthest", x, 30, 0, 30);
        x.moves(0, 30);
        nearest("moved", x, 0, 0, 30);
        nearest("there", x, 30, 0, 0);
    }

    private static void nearestOfNone() {
        DUE.sentence("NEAREST (what 0; -4), how far (1; -4)");
        nearest("no BELLS", new BellThatIsADoor(), 0, -4, -4);
        nearest("no BELLS", new BellThatIsADoor(), 30, -4, -4);
    }

    private static void nearestIsRefused() {
        DUE.sentence("nearest: -1");
        int[] places = {-1, 31, Integer.MIN_VALUE, Integer.MAX_VALUE};
        for (int place : places) {
            Told.unchanged(DUE, "nearest(" + place + ", 0)", Samples::some, x -> x.nearest(place, 0), -1);
            Told.unchanged(DUE, "nearest(" + place + ", 1)", Samples::none, x -> x.nearest(place, 1), -1);
        }
        for (int what : NO_WHAT) {
            Told.unchanged(DUE, "nearest(0, " + what + ")", Samples::some, x -> x.nearest(0, what), -1);
            Told.unchanged(DUE, "nearest(0, " + what + ")", Samples::none, x -> x.nearest(0, what), -1);
        }
    }

    private static void nothingChanges() {
        DUE.sentence("[FEET, ODDS, RUN, MEAN STEPS, NEAREST are asked for:] nothing changes");
        Told.unchanged(DUE, "feet", Samples::some, x -> x.feet(99, 9, 1), 8);
        Told.unchanged(DUE, "odds", Samples::some, x -> x.odds(2, 2, 2, 0), 1);
        Told.unchanged(DUE, "run", Samples::some, x -> x.run(0), 2);
        Told.unchanged(DUE, "run", Samples::full, x -> x.run(1), 0 + 10 + 0 + 0 + 0 + 5);
        Told.unchanged(DUE, "mean", Samples::some, x -> x.mean(0), 9);
        Told.unchanged(DUE, "nearest", Samples::some, x -> x.nearest(0, 0), 2);
    }
}
