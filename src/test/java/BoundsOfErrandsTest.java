/** A test for each sentence that names a bound of ERRANDS, HOURS FOR ALL, BUSIEST, ALONE (promises 15 to 18). */
public final class BoundsOfErrandsTest {
    private static final Due DUE = new Due("BoundsOfErrandsTest");

    public static void main(String[] args) {
        placesAnHour();
        wayBetweenBells();
        ringsTillItOpens();
        goesOnInTheNextHour();
        bellsAsTheyAre();
        hourGoesRound();
        twoHundredHours();
        errandOfNone();
        firstSuchOrder();
        ithOfTheOrder();
        bitsOneAtLeast();
        refusedErrands();
        fewestHoursForAll();
        leastOfSeveral();
        threeAtMost();
        forAllOfNone();
        forAllNever();
        busiestHour();
        busiestOfNone();
        aloneAtHome();
        nothingChanges();
        DUE.end();
    }

    private static void placesAnHour() {
        DUE.sentence("10 PLACES an HOUR (begun ones count whole) .. (none for 0 PLACES)");
        int[] places = {0, 1, 9, 10, 11, 19, 20, 21, 29, 30};
        int[] hours = {0, 1, 1, 1, 2, 2, 2, 3, 3, 3};
        for (int i = 0; i < places.length; i++) {
            BellThatIsADoor x = Due.marshOf("b20" + places[i] / 10 + places[i] % 10 + ";");
            DUE.is("to PLACE " + places[i], x.errands(0, 1, -1), hours[i] + 1);
            DUE.is("back from 30", x.errands(30, 1, -1), (30 - places[i] + 9) / 10 + 1);
        }
    }

    private static void wayBetweenBells() {
        DUE.sentence("goes from a PLACE to BELLS one behind the other (each way's begun HOUR counts whole)");
        BellThatIsADoor x = Due.marshOf("b2005;b2010;b2015;");
        DUE.is("5, 5 and 5 PLACES", x.errands(0, 7, -1), 6);
        DUE.is("5 and 10 PLACES", x.errands(0, 5, -1), 4);
        DUE.is("none, 5, 5", x.errands(5, 7, -1), 5);
    }

    private static void ringsTillItOpens() {
        DUE.sentence("at each he rings each HOUR from when he is there till it opens");
        BellThatIsADoor x = Due.marshOf("b1005;b0900;b4000;b6900;");
        DUE.is("a DOOR at 9 and 10", x.errands(0, 1, -1), 3);
        DUE.is("a BELL at 8 and 9", x.errands(0, 2, -1), 2);
        DUE.is("a MAID, rung each HOUR", x.errands(0, 4, -1), -4);
        DUE.is("an ECHO, rung each HOUR", x.errands(0, 8, -1), -4);
        DUE.is("a DOOR at 11 and, behind 12 HOURS of none, 0 and 1", x.errands(30, 1, -1), 18);
    }

    private static void goesOnInTheNextHour() {
        DUE.sentence("till it opens, and goes on in the next HOUR");
        DUE.is("at 8 and at 9", Due.marshOf("b2000;b2000;").errands(0, 3, -1), 2);
        // The BELL's last HOUR is 8 + 3; a HEN ahead of it costs the last one.
        BellThatIsADoor x = Due.marshOf("b2000;b0000;h03;");
        DUE.is("the BELL at 11, the HEN at 12", x.errands(0, 3, -1), 2);
        DUE.is("the BELL first", x.errands(0, 3, 0), 1);
    }

    private static void bellsAsTheyAre() {
        DUE.sentence("(each BELL as it is now, HOUR as it is when he begins)");
        BellThatIsADoor x = Due.marshOf("b1000;b4000;r0;r1;");
        DUE.is("RUNG 1 of a DOOR", x.errands(0, 1, -1), 1);
        DUE.is("RUNG 1 of a MAID", x.errands(0, 2, -1), 1);
        DUE.is("both: the MAID at 8", x.errands(0, 3, -1), 2);
        DUE.is("the MAID is first", x.errands(0, 3, 0), 1);
        x.hours(1);
        DUE.is("HOUR 9: no MAID, and RUNG is 0", x.errands(0, 2, -1), -4);
        DUE.is("the DOOR at 9, the MAID at 10", x.errands(0, 3, -1), 2);
        DUE.is("the DOOR is first", x.errands(0, 3, 0), 0);
        BellThatIsADoor unlike = Due.marshOf("b1000;b1000;b1000;r1;");
        DUE.is("RUNG 0", unlike.errands(0, 1, -1), 2);
        DUE.is("RUNG 1 of the second", unlike.errands(0, 2, -1), 1);
        DUE.is("RUNG 0 of the third", unlike.errands(0, 4, -1), 2);
        BellThatIsADoor door = Due.marshOf("b1000;");
        int[] hours = {2, 1, 2, 1};
        for (int due : hours) {
            DUE.is("as RUNG is at each call", door.errands(0, 1, -1), due);
            door.rings(0);
        }
        BellThatIsADoor early = Due.marshOf("b1000;h16;");
        DUE.is("the first of all at HOUR 0", early.errands(0, 1, -1), 2);
        early.rings(0);
        DUE.is("the first of all at HOUR 0, RUNG 1", early.errands(0, 1, -1), 1);
        BellThatIsADoor late = Due.marshOf("b2000;b2000;b2000;b2000;b2000;b3000;h15;");
        DUE.is("the last of all at HOUR 23", late.errands(0, 32, -1), 15);
        late.rings(5);
        DUE.is("the last of all at HOUR 23, RUNG 1", late.errands(0, 32, -1), 1);
        door.image();
        DUE.is("a DOOR", door.errands(0, 1, -1), 2);
        Due.text(door, "p030;b2000;");
        DUE.is("its PLACE at each call", door.errands(0, 1, -1), 18);
        DUE.is("a HEN", door.errands(0, 2, -1), 1);
        door.restore();
        Due.text(door, "b5000;");
        DUE.is("another one at each call", door.errands(0, 2, -1), -4);
    }

    private static void hourGoesRound() {
        DUE.sentence("HOURS of the way go round behind 23");
        BellThatIsADoor x = Due.marshOf("b1000;h14;");
        DUE.is("22, 23, 0 and 1", x.errands(0, 1, -1), 4);
        DUE.is("a way of 2 HOURS", x.errands(20, 1, -1), 4);
        DUE.is("a way of 3 HOURS", x.errands(30, 1, -1), 5);
        BellThatIsADoor bell = Due.marshOf("b0000;h15;");
        DUE.is("23 and 0", bell.errands(0, 1, -1), 2);
    }

    private static void twoHundredHours() {
        DUE.sentence("200 HOURS at most");
        // Whoever opens at all does so within 31 HOURS, and six of them with the longest ways between take 156.
        int[][] waits = waitsOfAll();
        int[] behind = new int[24];
        int[] due = {34, 60, 84, 108, 132, 156};
        for (int legs = 0; legs < due.length; legs++) {
            behind = withALegMore(waits, behind);
            int most = 0;
            for (int hours : behind) {
                most = Math.max(most, hours);
            }
            DUE.is("the most HOURS of " + (legs + 1) + " BELLS by any order", most, due[legs]);
        }
        DUE.is("one of three never opens", Due.marshOf("b2000;b5000;b2000;").errands(0, 7, -1), -4);
        DUE.is("without that one", Due.marshOf("b2000;b5000;b2000;").errands(0, 5, -1), 2);
        BellThatIsADoor six = Due.marshOf("b7930;b7900;b7930;b7900;b7930;b7900;h01;");
        DUE.is("six MARBLES, three by three", six.errands(0, 63, -1), 6 * 24 - 2);
    }

    /** By KIND, FIGURE and RUNG: how many HOURS one rings till it opens, by the HOUR when he begins; -4 never. */
    private static int[][] waitsOfAll() {
        int[][] waits = new int[8 * 10 * 10][24];
        for (int one = 0; one < waits.length; one++) {
            BellThatIsADoor x = Due.marshOf("b" + one / 100 + one / 10 % 10 + "00;");
            for (int i = 0; i < 24 && x.bell(0, 7) == 0; i++) {
                x.hours(1);
            }
            for (int rung = 0; rung < one % 10 && x.bell(0, 3) == rung && rung + 1 < x.bell(0, 5); rung++) {
                x.rings(0);
            }
            for (int i = 0; i < 24; i++) {
                waits[one][x.count(1)] = x.errands(0, 1, -1);
                x.hours(1);
            }
        }
        return waits;
    }

    /** By the HOUR when he begins: the most HOURS of a way (0 .. 3 HOURS), of one of them, of what is behind it. */
    private static int[] withALegMore(int[][] waits, int[] behind) {
        int[] most = new int[24];
        for (int hour = 0; hour < 24; hour++) {
            for (int way = 0; way <= 3; way++) {
                for (int[] one : waits) {
                    int wait = one[(hour + way) % 24];
                    int all = wait < 0 ? 0 : way + wait + behind[(hour + way + wait) % 24];
                    most[hour] = Math.max(most[hour], all);
                }
            }
        }
        return most;
    }

    private static void errandOfNone() {
        DUE.sentence("ERRANDS: HOURS (i -1; -4), the i-th one (-4 none ..)");
        BellThatIsADoor x = Due.marshOf("b5000;b2000;");
        for (int i = -1; i <= 2; i++) {
            DUE.is("errands(0, 1, " + i + ")", x.errands(0, 1, i), -4);
            DUE.is("errands(0, 3, " + i + ")", x.errands(0, 3, i), -4);
        }
        DUE.is("errands(0, 2, 0)", x.errands(0, 2, 0), 1);
    }

    private static void firstSuchOrder() {
        DUE.sentence("the i-th by the first such order (by numbers)");
        BellThatIsADoor alike = Due.marshOf("b2000;b2000;b2000;b2000;b2000;b2000;");
        int[] sets = {63, 1 | 4 | 32, 2 | 8 | 16};
        int[][] orders = {{0, 1, 2, 3, 4, 5}, {0, 2, 5}, {1, 3, 4}};
        for (int s = 0; s < sets.length; s++) {
            for (int i = 0; i < orders[s].length; i++) {
                DUE.is("errands(0, " + sets[s] + ", " + i + ")", alike.errands(0, sets[s], i), orders[s][i]);
            }
        }
        // From 10, both sides take as long: 0 then 1 goes 10 and 20, 1 then 0 the same.
        BellThatIsADoor sides = Due.marshOf("b2000;b2020;");
        DUE.is("either side", sides.errands(10, 3, -1), 5);
        DUE.is("the first", sides.errands(10, 3, 0), 0);
        DUE.is("the second", sides.errands(10, 3, 1), 1);
        // 2, 0, 1 and 2, 1, 0 are the best.
        BellThatIsADoor mixed = Due.marshOf("b2010;b2010;b2000;");
        int[] due = {2, 0, 1};
        for (int i = 0; i < 3; i++) {
            DUE.is("2, 0, 1", mixed.errands(0, 7, i), due[i]);
        }
    }

    private static void ithOfTheOrder() {
        DUE.sentence("the i-th one (-4 .. there are fewer). -1 (.. i below -1)");
        BellThatIsADoor x = Due.marshOf("b2000;b2000;b2000;");
        DUE.is("the last of two", x.errands(0, 6, 1), 2);
        DUE.is("one more", x.errands(0, 6, 2), -4);
        DUE.is("the last of three", x.errands(0, 7, 2), 2);
        DUE.is("one more", x.errands(0, 7, 3), -4);
        DUE.is("far more", x.errands(0, 7, Integer.MAX_VALUE), -4);
        DUE.is("HOURS", x.errands(0, 7, -1), 3);
        DUE.is("i -2", x.errands(0, 7, -2), -1);
        DUE.is("i far below", x.errands(0, 7, Integer.MIN_VALUE), -1);
    }

    private static void bitsOneAtLeast() {
        DUE.sentence("BELLS (told as bits, one at least) .. -1 (bits ..)");
        BellThatIsADoor x = Due.marshOf("b2000;b2000;b2000;b2000;b2000;");
        DUE.is("the first alone", x.errands(0, 1, 0), 0);
        DUE.is("the last alone", x.errands(0, 16, 0), 4);
        DUE.is("all", x.errands(0, 31, -1), 5);
        int[] out = {0, 32, 33, 63, -1, -16, Integer.MIN_VALUE, Integer.MAX_VALUE, Integer.MIN_VALUE + 1};
        for (int set : out) {
            DUE.is("errands(0, " + set + ", -1)", x.errands(0, set, -1), -1);
        }
        BellThatIsADoor six = Due.marshOf("b2000;b2000;b2000;b2000;b2000;b2000;");
        DUE.is("six", six.errands(0, 63, -1), 6);
        DUE.is("a seventh", six.errands(0, 64, -1), -1);
        DUE.is("no BELLS", new BellThatIsADoor().errands(0, 1, -1), -1);
        DUE.is("no BELLS, no bits", new BellThatIsADoor().errands(0, 0, -1), -1);
    }

    private static void refusedErrands() {
        DUE.sentence("errands: -1");
        int[][] out = {{-1, 1, -1}, {31, 1, -1}, {0, 0, -1}, {0, 8, -1}, {0, 1, -2}, {31, 0, -2},
            {Integer.MIN_VALUE, 7, 0}, {Integer.MAX_VALUE, 7, 0}};
        for (int[] o : out) {
            Told.unchanged(DUE, "errands(" + o[0] + ", " + o[1] + ", " + o[2] + ")", Samples::some,
                x -> x.errands(o[0], o[1], o[2]), -1);
        }
        DUE.is("-1 is told ahead of -4", Due.marshOf("b5000;").errands(31, 1, 7), -1);
    }

    private static void fewestHoursForAll() {
        DUE.sentence("HOURS FOR ALL: the fewest HOURS (bits ..) so that all BELLS are HOME at one of them");
        DUE.is("one HOUR", Due.marshOf("b0000;b0900;").forAll(), Due.bits(9));
        DUE.is("the last HOUR of the one is the first of the other", Due.marshOf("b0000;b3000;").forAll(), Due.bits(0, 12));
        DUE.is("HOUR 2, not 0 and 2", Due.marshOf("b0000;b3900;b1200;").forAll(), Due.bits(2));
        DUE.is("HOUR 12, not 0 and 12", Due.marshOf("b3000;b3900;b2000;").forAll(), Due.bits(12));
    }

    private static void leastOfSeveral() {
        DUE.sentence("(bits, of several the least ..)");
        DUE.is("a HEN at 0", Due.marshOf("b2000;").forAll(), Due.bits(0));
        DUE.is("a BELL from 9 on", Due.marshOf("b0900;").forAll(), Due.bits(9));
        // 10 and 12 are less, as bits, than 0 and 14.
        DUE.is("the less bits as a number", Due.marshOf("b3000;b4000;b1900;").forAll(), Due.bits(10, 12));
    }

    private static void threeAtMost() {
        DUE.sentence("(.. 3 at most)");
        DUE.is("three of them: 0, 1, 12", Due.marshOf("b3000;b1100;b6900;b6800;b6600;").forAll(), Due.bits(0, 1, 12));
        DUE.is("two do", Due.marshOf("b3000;b1100;b6900;b6800;").forAll(), Due.bits(10, 18));
        // 0, 10 and 12 do for all but SUITED, so that none need four.
        for (int k = 0; k < 8; k++) {
            for (int f = 0; f <= 9; f++) {
                BellThatIsADoor x = Due.marshOf("b" + k + f + "00;");
                DUE.is("KIND " + k + ", FIGURE " + f, x.home(0) | x.home(10) | x.home(12), k == 5 ? 0 : 1);
            }
        }
    }

    private static void forAllOfNone() {
        DUE.sentence("the fewest HOURS [of no BELLS: none]");
        DUE.is("no BELLS", new BellThatIsADoor().forAll(), 0);
    }

    private static void forAllNever() {
        DUE.sentence("HOURS FOR ALL (bits); -4");
        DUE.is("SUITED", Due.marshOf("b5000;").forAll(), -4);
        DUE.is("SUITED among six", Due.marshOf("b2000;b2000;b2000;b2000;b2000;b5900;").forAll(), -4);
    }

    private static void busiestHour() {
        DUE.sentence("BUSIEST: the HOUR at which most are HOME, of several the least; how many. -1");
        BellThatIsADoor x = Due.marshOf("b0900;b0000;b3000;b5000;");
        DUE.is("9, 10 and 11, then 12 and on", x.busiest(0), 9);
        DUE.is("two", x.busiest(1), 2);
        BellThatIsADoor late = Due.marshOf("b3900;b3800;b6800;");
        DUE.is("all at 0", late.busiest(0), 0);
        DUE.is("three", late.busiest(1), 3);
        BellThatIsADoor six = Due.marshOf("b2000;b2000;b2000;b2000;b2000;b2000;");
        DUE.is("all at 0", six.busiest(0), 0);
        DUE.is("six", six.busiest(1), 6);
        BellThatIsADoor last = Due.marshOf("b3000;b0900;b0800;b0700;b0600;");
        DUE.is("12", last.busiest(0), 12);
        DUE.is("five", last.busiest(1), 5);
        int[] out = {-1, 2, Integer.MIN_VALUE, Integer.MAX_VALUE};
        for (int what : out) {
            Told.unchanged(DUE, "busiest(" + what + ")", Samples::some, y -> y.busiest(what), -1);
        }
    }

    private static void busiestOfNone() {
        DUE.sentence("of several the least; how many [of no BELLS, of none HOME]");
        DUE.is("no BELLS: HOUR 0", new BellThatIsADoor().busiest(0), 0);
        DUE.is("none", new BellThatIsADoor().busiest(1), 0);
        DUE.is("no BELLS, what 2", new BellThatIsADoor().busiest(2), -1);
        DUE.is("SUITED: HOUR 0", Due.marshOf("b5000;").busiest(0), 0);
        DUE.is("none", Due.marshOf("b5000;").busiest(1), 0);
    }

    private static void aloneAtHome() {
        DUE.sentence("ALONE: BELLS (bits) that are the only one HOME at some HOUR");
        DUE.is("none", new BellThatIsADoor().alone(), 0);
        DUE.is("SUITED", Due.marshOf("b5000;").alone(), 0);
        DUE.is("one", Due.marshOf("b6900;").alone(), 1);
        DUE.is("two HENS", Due.marshOf("b2000;b2000;").alone(), 0);
        DUE.is("one HOUR each: at 0 and at 12", Due.marshOf("b0000;b0100;").alone(), Due.bits(0, 1));
        DUE.is("two alike beside one", Due.marshOf("b0000;b0000;b0100;").alone(), Due.bits(2));
        DUE.is("at 23 alone", Due.marshOf("b3000;b0900;b0800;b1000;b5000;").alone(), Due.bits(0, 3));
        DUE.is("the sixth", Due.marshOf("b5000;b5000;b5000;b5000;b5000;b2000;").alone(), 32);
    }

    private static void nothingChanges() {
        DUE.sentence("[ERRANDS and HOURS are asked for:] nothing changes");
        Told.unchanged(DUE, "errands", Samples::full, x -> x.errands(0, 3, -1), 3);
        Told.unchanged(DUE, "errands", Samples::full, x -> x.errands(0, 16, 0), -4);
        Told.unchanged(DUE, "forAll", Samples::some, x -> x.forAll(), Due.bits(0));
        Told.unchanged(DUE, "busiest", Samples::some, x -> x.busiest(1), 3);
        Told.unchanged(DUE, "alone", Samples::some, x -> x.alone(), Due.bits(1));
    }
}
