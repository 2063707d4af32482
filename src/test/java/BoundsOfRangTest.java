/** A test for each sentence that names a bound of WHAT RANG, TELL, ONE DOOR (promises 19 to 21). */
public final class BoundsOfRangTest {
    private static final Due DUE = new Due("BoundsOfRangTest");
    private static final int[] LEAST = {-128, -32768, Integer.MIN_VALUE};

    public static void main(String[] args) {
        oneEachHourFromNow();
        hoursGoRound();
        leastIsSkipped();
        skippedIsRung();
        fortyEightAtMost();
        kindsAsBits();
        figuresAsBits();
        nothingTold();
        rungAsNow();
        figureAndKindOfTheOne();
        rangIsRefused();
        tellsMost();
        tellsWithRungNone();
        tellsOfNoKinds();
        tellIsRefused();
        twosAlike();
        firstOfTheTwos();
        oneDoorIsRefused();
        nothingChanges();
        DUE.end();
    }

    private static int rang(BellThatIsADoor x, int b, int what, int... heard) {
        Due.list(x, 1, 2, heard);
        return x.whatRang(1, b, what);
    }

    private static void oneEachHourFromNow() {
        DUE.sentence("a ROW tells what is HEARD ringing one each HOUR from now, one behind the other");
        BellThatIsADoor x = Due.marshOf("b0800;h03;");
        // HOUR is 11. FIGURE 8: BELL 109; DOOR 5 of 11, none at 12; HEN 100; MAID at 14, 16; ECHO 0, 9, 18.
        DUE.is("now", rang(x, 0, 0, 109), Due.bits(0));
        DUE.is("DOOR at 11, not at 12", rang(x, 0, 0, 5, 0), Due.bits(1));
        DUE.is("DOOR at 12, not at 11", rang(x, 0, 0, 0, 6), 0);
        DUE.is("COUGH not at 11, 22 by 4 at 12", rang(x, 0, 0, 0, 5), Due.bits(3));
        DUE.is("COUGH 22 by 2 at 13", rang(x, 0, 0, 0, 5, 11), Due.bits(3));
        DUE.is("none at 14", rang(x, 0, 0, 0, 5, 11, 16), 0);
        DUE.is("MARBLE not at 11, 23 by 8 at 12", rang(x, 0, 0, 0, 2), Due.bits(7));
        BellThatIsADoor y = Due.marshOf("b0800;h04;");
        DUE.is("COUGH 22 by 4, 22 by 2 at 12 and 13", rang(y, 0, 0, 5, 11, 0), Due.bits(3));
        DUE.is("MARBLE 23 by 8, 23 by 4", rang(y, 0, 0, 2, 5, 0), Due.bits(7));
        DUE.is("not the first alone", rang(y, 0, 0, 5, 12, 0), 0);
    }

    private static void hoursGoRound() {
        DUE.sentence("one each HOUR from now (behind 23: 0)");
        BellThatIsADoor x = Due.marshOf("b0000;h15;");
        DUE.is("23, 0 and 1: a BELL", rang(x, 0, 0, 0, 101, 101), Due.bits(0));
        DUE.is("a DOOR", rang(x, 0, 0, 0, 1, 103), Due.bits(1));
        DUE.is("a MAID, 0 of 1", rang(x, 0, 0, 0, 0, 0), Due.bits(4, 5));
        DUE.is("an ECHO", rang(x, 0, 0, 109, 109), Due.bits(6));
        DUE.is("a BELL's FIGURES: HOME at 0", rang(x, 0, 1, 0, 101), Due.bits(0));
        DUE.is("HOME at 1 first", rang(x, 0, 1, 0, 0, 102), Due.bits(1));
    }

    private static void leastIsSkipped() {
        DUE.sentence("(the least number of the SORT is skipped ..)");
        BellThatIsADoor x = Due.marshOf("b2000;");
        for (int sort = 0; sort < 3; sort++) {
            Due.list(x, 1, sort, LEAST[sort]);
            DUE.is("alone, SORT " + sort, x.whatRang(1, 0, 0), 255);
            DUE.is("alone, SORT " + sort, x.whatRang(1, 0, 1), 1023);
            Due.list(x, 1, sort, 100, LEAST[sort], 100);
            DUE.is("between, SORT " + sort, x.whatRang(1, 0, 0), Due.bits(2));
            Due.list(x, 1, sort, LEAST[sort] + 1);
            DUE.is("one more, SORT " + sort, x.whatRang(1, 0, 0), 0);
            Due.list(x, 1, sort, LEAST[sort] - 1);
            DUE.is("one less goes round, SORT " + sort, x.whatRang(1, 0, 0), 0);
        }
        Due.list(x, 1, 1, -128);
        DUE.is("a byte's least among shorts", x.whatRang(1, 0, 0), 0);
        Due.list(x, 1, 2, -128, -32768);
        DUE.is("a short's least among ints", x.whatRang(1, 0, 0), 0);
        Due.list(x, 1, 0, 128);
        DUE.is("128 is a byte's least", x.whatRang(1, 0, 0), 255);
    }

    private static void skippedIsRung() {
        DUE.sentence("ringing one each HOUR (the one that is skipped, too)");
        BellThatIsADoor x = Due.marshOf("b1000;");
        DUE.is("a DOOR's second ring opens", rang(x, 0, 0, LEAST[2], 103), Due.bits(1));
        DUE.is("its first would not", rang(x, 0, 0, LEAST[2], 1), 0);
        DUE.is("its HOUR goes by", rang(x, 0, 0, LEAST[2], LEAST[2], LEAST[2], 0, LEAST[2], 0), Due.bits(4, 5));
    }

    private static void fortyEightAtMost() {
        DUE.sentence("48 at most .. -13 more than 48 numbers");
        BellThatIsADoor x = Due.marshOf("b2000;b5000;");
        for (int sort = 0; sort < 3; sort++) {
            x.row(1, sort, 48);
            // A MAID is not HOME each second HOUR, so RUNG is never above 1: of 1 STEP, 1 by 2, cut, is 0.
            DUE.is("48 numbers", x.whatRang(1, 1, 0), Due.bits(4, 5));
            DUE.is("48 numbers", x.whatRang(1, 1, 1), 1023);
            DUE.is("48 numbers", x.tell(1, 1, 0), 0);
            DUE.is("48 numbers", x.tell(1, 1, 1), 1);
            x.put(1, 47, 1);
            DUE.is("the 48-th counts", x.whatRang(1, 1, 0), 0);
            x.row(1, sort, 49);
            DUE.is("49 numbers", x.whatRang(1, 1, 0), -13);
            DUE.is("49 numbers", x.whatRang(1, 1, 1), -13);
            DUE.is("49 numbers", x.tell(1, 1, 0), -13);
            DUE.is("49 numbers", x.tell(1, 1, 1), -13);
            for (int i = 0; i < 49; i++) {
                x.put(1, i, LEAST[sort]);
            }
            DUE.is("49 that are skipped", x.whatRang(1, 1, 0), -13);
            x.row(1, sort, 100);
            DUE.is("100 numbers", x.whatRang(1, 1, 0), -13);
        }
    }

    private static void kindsAsBits() {
        DUE.sentence("KINDS (bits) of it by which all of it is so");
        // FIGURE 9 at 9: BELL 110, DOOR 6, HEN 100, COUGH, MAID, SUITED, ECHO, MARBLE 0.
        BellThatIsADoor x = Due.marshOf("b0900;h01;");
        DUE.is("BELL", rang(x, 0, 0, 110), Due.bits(0));
        DUE.is("DOOR", rang(x, 0, 0, 6), Due.bits(1));
        DUE.is("HEN", rang(x, 0, 0, 100), Due.bits(2));
        DUE.is("the others", rang(x, 0, 0, 0), Due.bits(3, 4, 5, 6, 7));
        DUE.is("MAID at 10", rang(x, 0, 0, 0, 3), Due.bits(4));
        x.hours(12);
        // At 21: COUGH 24 by 5, MARBLE 25 by 10.
        DUE.is("COUGH", rang(x, 0, 0, 4), Due.bits(3));
        DUE.is("MARBLE", rang(x, 0, 0, 2), Due.bits(7));
    }

    private static void figuresAsBits() {
        DUE.sentence("FIGURES (bits 0 .. 9)");
        BellThatIsADoor x = Due.marshOf("b0500;h01;");
        for (int f = 0; f <= 9; f++) {
            DUE.is("FIGURE " + f, rang(x, 0, 1, 101 + f), 1 << f);
        }
        DUE.is("none", rang(x, 0, 1, 111), 0);
        DUE.is("none", rang(x, 0, 1, 100), 0);
        BellThatIsADoor hen = Due.marshOf("b2500;");
        DUE.is("all", rang(hen, 0, 1, 100), 1023);
    }

    private static void nothingTold() {
        DUE.sentence("all of it is so [of a ROW of none]");
        BellThatIsADoor x = Due.marshOf("b5300;");
        DUE.is("KINDS", rang(x, 0, 0), 255);
        DUE.is("FIGURES", rang(x, 0, 1), 1023);
    }

    private static void rungAsNow() {
        DUE.sentence("(RUNG as now)");
        BellThatIsADoor x = Due.marshOf("b7900;b7900;r0;r0;r0;r0;r0;r0;r0;r0;r0;");
        DUE.is("a MARBLE's tenth", rang(x, 0, 0, 125), Due.bits(7));
        DUE.is("another's first", rang(x, 1, 0, 2), Due.bits(7));
        DUE.is("a COUGH, RUNG more than it WANTS", rang(x, 0, 0, 124), Due.bits(3));
        DUE.is("a HEN", rang(x, 0, 0, 100, 100), Due.bits(2));
        DUE.is("MARBLES of FIGURES that open at 8: none HOME but 9", rang(x, 0, 1, 125), Due.bits(9));
        DUE.is("the others", rang(x, 0, 1, 0), 511);
        DUE.is("another's FIGURES: 2 of 25 by 10", rang(x, 1, 1, 2), Due.bits(9));
    }

    private static void figureAndKindOfTheOne() {
        DUE.sentence("KINDS (bits) of it .. FIGURES (bits 0 .. 9) [with the FIGURE, the KIND of the one]");
        BellThatIsADoor x = Due.marshOf("b2000;b0300;b6900;");
        DUE.is("BELL of FIGURE 3", rang(x, 1, 0, 104), Due.bits(0));
        DUE.is("a BELL's FIGURES", rang(x, 1, 1, 104), Due.bits(3));
        DUE.is("a HEN's FIGURES", rang(x, 0, 1, 100), 1023);
        DUE.is("an ECHO's FIGURES at 8: STEPS 8 of FIGURE 1", rang(x, 2, 1, 108), Due.bits(1));
        DUE.is("none of FIGURE 0", rang(x, 0, 0, 104), 0);
        Due.list(x, 1, 2, 104);
        DUE.is("one alone is told of a BELL of FIGURE 3", x.tell(1, 1, 1), 1);
        DUE.is("none of a HEN of FIGURE 0", x.tell(1, 0, 1), 0);
        // FIGURE 9: five unlike first at 10; FIGURE 0: BELL 101, DOOR 1, HEN 100, ECHO 109, others 0 or 1 at 0.
        x.row(1, 0, 0);
        DUE.is("FIGURE 9", x.tell(1, 2, 0), 10);
        DUE.is("FIGURE 0", x.tell(1, 0, 0), 0);
    }

    private static void rangIsRefused() {
        DUE.sentence("whatRang: -1, -11, -12 (no ROW), -13 more than 48 numbers");
        refused("whatRang", true);
    }

    private static void tellIsRefused() {
        DUE.sentence("tell: -1, -11, -12, -13 likewise");
        refused("tell", false);
    }

    private static void refused(String name, boolean rang) {
        int[][] out = {{-1, 0, 0, -1}, {8, 0, 0, -1}, {1, -1, 0, -1}, {1, 3, 0, -1}, {1, 6, 0, -1}, {1, 0, -1, -1},
            {1, 0, 2, -1}, {Samples.NOTHING, 3, 0, -1}, {Samples.HEN, 0, 2, -1}, {Samples.TOO_MANY, -1, 0, -1},
            {Samples.TOO_MANY, 0, 2, -1}, {Samples.NOTHING, 0, 0, -11}, {Samples.NOTHING, 2, 1, -11},
            {Samples.HEN, 0, 0, -12}, {Samples.MARBLE, 0, 1, -12}, {Samples.TOO_MANY, 0, 0, -13},
            {Samples.TOO_MANY, 2, 1, -13}, {Integer.MIN_VALUE, 0, 0, -1}, {Integer.MAX_VALUE, 0, 0, -1}};
        for (int[] o : out) {
            Told.unchanged(DUE, name + "(" + o[0] + ", " + o[1] + ", " + o[2] + ")", Samples::some,
                x -> rang ? x.whatRang(o[0], o[1], o[2]) : x.tell(o[0], o[1], o[2]), o[3]);
        }
        BellThatIsADoor none = Samples.none();
        DUE.is("no BELLS", rang ? none.whatRang(1, 0, 0) : none.tell(1, 0, 0), -1);
        DUE.is("no BELLS, nothing held", rang ? none.whatRang(4, 0, 0) : none.tell(4, 0, 0), -1);
    }

    private static void tellsMost() {
        DUE.sentence("TELL: the HOUR (0 .. 23) at which one RING tells most .. of several the least; how many unlike");
        BellThatIsADoor x = Due.marshOf("b0900;");
        // At 10: BELL 110, DOOR 6, HEN 100, MAID 3, ECHO 0 and the others 0; at 14, 16, 18 as many.
        Due.list(x, 1, 0);
        DUE.is("10", x.tell(1, 0, 0), 10);
        DUE.is("five", x.tell(1, 0, 1), 5);
        // BELL and HEN alone, 110 and 100 from 9 on: ahead of it 0 and 100.
        Due.list(x, 1, 1, LEAST[1], LEAST[1], 110);
        DUE.is("one KIND: HOUR 0", x.tell(1, 0, 0), 0);
        DUE.is("one", x.tell(1, 0, 1), 1);
        // MAID and ECHO and SUITED: ahead of 10 all are 0.
        Due.list(x, 1, 1, 0, 0);
        DUE.is("at 10 the MAID alone", x.tell(1, 0, 0), 10);
        DUE.is("two unlike", x.tell(1, 0, 1), 2);
        // COUGH and MARBLE of FIGURE 0 at 23: 6 by 2 and 7 by 4; at 12 they are HOME, too.
        BellThatIsADoor late = Due.marshOf("b3000;h15;");
        Due.list(late, 1, 0, LEAST[0], LEAST[0], 0);
        // 23, 0, 1: silent at 1 are COUGH, MAID, SUITED, MARBLE; 12 tells COUGH 3, MARBLE 1, the others 0.
        DUE.is("12", late.tell(1, 0, 0), 12);
        DUE.is("three", late.tell(1, 0, 1), 3);
    }

    private static void tellsWithRungNone() {
        DUE.sentence("one RING (RUNG 0)");
        BellThatIsADoor x = Due.marshOf("b3900;r0;r0;r0;r0;");
        // RUNG 4: a COUGH opens now. At 0 with RUNG 0 it would be HEARD as 4, a MARBLE as 2.
        Due.list(x, 1, 0, 124);
        DUE.is("the COUGH alone", x.tell(1, 0, 1), 1);
        Due.list(x, 1, 0, LEAST[0]);
        // At 10: BELL 110, DOOR 6, HEN 100, MAID 3, others 0; at 0: HEN 100, COUGH 4, ECHO 0, MARBLE 2, others 0.
        DUE.is("how many", x.tell(1, 0, 1), 5);
        DUE.is("at 10", x.tell(1, 0, 0), 10);
        BellThatIsADoor echo = Due.marshOf("b6200;h01;r0;");
        DUE.is("RUNG", echo.bell(0, 3), 1);
        // At 10 BELL 103, DOOR 2 of 5, HEN 100, MAID 1 of 2, the others 0; at 6 ECHO 3 of 7 beside those.
        Due.list(echo, 1, 0);
        DUE.is("six at 6", echo.tell(1, 0, 1), 6);
        DUE.is("6", echo.tell(1, 0, 0), 6);
    }

    private static void tellsOfNoKinds() {
        DUE.sentence("how many unlike (1; 0 no KINDS)");
        BellThatIsADoor x = Due.marshOf("b0900;");
        Due.list(x, 1, 0, 99);
        DUE.is("how many", x.tell(1, 0, 1), 0);
        DUE.is("no HOUR is better than 0", x.tell(1, 0, 0), 0);
    }

    private static void twosAlike() {
        DUE.sentence("ONE DOOR: twos of BELLS that are HOME alike, WANT and STEP alike: how many");
        DUE.is("no BELLS", new BellThatIsADoor().oneDoor(0), 0);
        DUE.is("one", Due.marshOf("b2000;").oneDoor(0), 0);
        DUE.is("two", Due.marshOf("b2000;b2000;").oneDoor(0), 1);
        DUE.is("two HENS of other FIGURES and PLACES", Due.marshOf("b2030;b2900;r0;").oneDoor(0), 1);
        DUE.is("six", Due.marshOf("b2000;b2000;b2000;b2000;b2000;b2000;").oneDoor(0), 15);
        DUE.is("three and three", Due.marshOf("b2000;b0000;b2000;b0000;b2000;b0000;").oneDoor(0), 6);
        DUE.is("HOME unlike: BELLS of FIGURES 0, 1", Due.marshOf("b0000;b0100;").oneDoor(0), 0);
        DUE.is("HOME and WANTS alike, STEPS unlike: HEN and ECHO", Due.marshOf("b2000;b6000;").oneDoor(0), 0);
        DUE.is("HOME alike, not WANTS: COUGH and MARBLE", Due.marshOf("b3900;b7900;").oneDoor(0), 0);
        DUE.is("SUITED of FIGURES 1, 2: 2 STEPS", Due.marshOf("b5100;b5200;").oneDoor(0), 1);
        DUE.is("SUITED of FIGURES 0, 1: 1 and 2 STEPS", Due.marshOf("b5000;b5100;").oneDoor(0), 0);
        DUE.is("MAIDS of FIGURES 1, 2: both from 2 on, 2 STEPS", Due.marshOf("b4100;b4200;").oneDoor(0), 1);
        DUE.is("MAIDS of FIGURES 3, 4: both from 4 on to 14, 3 STEPS", Due.marshOf("b4300;b4400;").oneDoor(0), 1);
    }

    private static void firstOfTheTwos() {
        DUE.sentence("the first (10 the lesser and the other); -4");
        DUE.is("no BELLS", new BellThatIsADoor().oneDoor(1), -4);
        DUE.is("one", Due.marshOf("b2000;").oneDoor(1), -4);
        DUE.is("none", Due.marshOf("b2000;b0000;").oneDoor(1), -4);
        DUE.is("0 and 1", Due.marshOf("b2000;b2000;b2000;").oneDoor(1), 1);
        DUE.is("0 and 5, not 1 and 2", Due.marshOf("b2000;b0000;b0000;b1000;b3000;b2000;").oneDoor(1), 5);
        DUE.is("4 and 5", Due.marshOf("b2000;b0000;b0100;b1000;b3000;b3000;").oneDoor(1), 45);
        DUE.is("1 and 4, not 2 and 3", Due.marshOf("b2000;b0000;b0100;b0100;b0000;").oneDoor(1), 14);
    }

    private static void oneDoorIsRefused() {
        DUE.sentence("oneDoor: -1");
        int[] out = {-1, 2, Integer.MIN_VALUE, Integer.MAX_VALUE};
        for (int what : out) {
            Told.unchanged(DUE, "oneDoor(" + what + ")", Samples::some, x -> x.oneDoor(what), -1);
        }
        DUE.is("-1 is told ahead of -4", new BellThatIsADoor().oneDoor(2), -1);
    }

    private static void nothingChanges() {
        DUE.sentence("[WHAT RANG, TELL, ONE DOOR are asked for:] nothing changes");
        Told.unchanged(DUE, "whatRang", Samples::some, x -> x.whatRang(Samples.SHORTS, 1, 0), 0);
        Told.unchanged(DUE, "whatRang", Samples::full, x -> x.whatRang(Samples.TEXT, 1, 1), 0);
        Told.unchanged(DUE, "tell", Samples::some, x -> x.tell(Samples.SHORTS, 1, 0), 0);
        Told.unchanged(DUE, "oneDoor", Samples::full, x -> x.oneDoor(0), 0);
    }
}
