/** A test for each sentence of "Terms" that names a bound of BELLS, KINDS, a RING, HOURS (promises 1, 3 to 7). */
public final class BoundsOfBellsTest {
    private static final Due DUE = new Due("BoundsOfBellsTest");

    public static void main(String[] args) {
        sixAtMost();
        asTheyCome();
        figureRange();
        placeRange();
        rungRange();
        rungSinceItOpened();
        openedRange();
        hourRange();
        dayRange();
        dayStaysBelowThousand();
        kindRange();
        bellHome();
        doorHome();
        henHome();
        coughHome();
        maidHome();
        suitedHome();
        echoHome();
        marbleHome();
        wantsOfAll();
        stepsOfAll();
        nobodyHome();
        rungIsOneMore();
        wantsOrMore();
        elseAPart();
        cutToNothing();
        hourGoesBy();
        manyHoursGoBy();
        placeBecomesAnother();
        whatIsToldOfABell();
        newObject();
        refusedNothingChanges();
        DUE.end();
    }

    private static BellThatIsADoor one(int kind, int figure) {
        BellThatIsADoor x = new BellThatIsADoor();
        x.keep(0, 1, kind, figure);
        x.comes(0, 0);
        return x;
    }

    private static void sixAtMost() {
        DUE.sentence("BELLS 0 .. 5 as they come (6 at most)");
        BellThatIsADoor x = new BellThatIsADoor();
        x.keep(0, 1, 2, 0);
        for (int b = 0; b < 6; b++) {
            DUE.is("BELL " + b + " ahead of it", x.bell(b, 0), -1);
            DUE.is("comes", x.comes(0, 0), b);
            DUE.is("BELL " + b, x.bell(b, 0), 2);
            DUE.is("count(0)", x.count(0), b + 1);
        }
        DUE.is("a seventh comes", x.comes(0, 0), -2);
        DUE.is("count(0)", x.count(0), 6);
        DUE.is("BELL 6", x.bell(6, 0), -1);
        DUE.is("rings(5)", x.rings(5), 100);
        DUE.is("rings(6)", x.rings(6), -1);
        DUE.is("home(0)", x.home(0), 63);
    }

    private static void asTheyCome() {
        DUE.sentence("BELLS 0 .. 5 as they come");
        BellThatIsADoor x = new BellThatIsADoor();
        int[] kinds = {6, 0, 7, 3, 5, 4};
        for (int b = 0; b < 6; b++) {
            x.keep(0, 1, kinds[b], b + 1);
            x.comes(0, 5 * b);
        }
        for (int b = 0; b < 6; b++) {
            DUE.is("KIND of " + b, x.bell(b, 0), kinds[b]);
            DUE.is("FIGURE of " + b, x.bell(b, 1), b + 1);
            DUE.is("PLACE of " + b, x.bell(b, 2), 5 * b);
        }
        BellThatIsADoor told = Due.marshOf("b6100;b0205;b7310;b3415;b5520;b4625;r0;r1;r2;r4;r5;");
        int[] wants = {1, 1, 6, 3, 2, 2};
        int[] steps = {8, 3, 13, 14, 4, 4};
        for (int b = 0; b < 6; b++) {
            DUE.is("KIND of " + b + " of a text", told.bell(b, 0), kinds[b]);
            DUE.is("FIGURE of " + b + " of a text", told.bell(b, 1), b + 1);
            DUE.is("PLACE of " + b + " of a text", told.bell(b, 2), 5 * b);
            DUE.is("RUNG of " + b + " of a text", told.bell(b, 3), b == 5 ? 1 : 0);
            DUE.is("OPENED of " + b + " of a text", told.bell(b, 4), b < 2 ? 1 : 0);
            DUE.is("WANTS of " + b + " of a text", told.bell(b, 5), wants[b]);
            DUE.is("STEPS of " + b + " of a text", told.bell(b, 6), steps[b]);
            DUE.is("HOME of " + b + " of a text", told.bell(b, 7), told.home(8) >> b & 1);
        }
        DUE.is("HOME at 8", told.home(8), Due.bits(0, 1, 5));
    }

    private static void figureRange() {
        DUE.sentence("each with a FIGURE (0 .. 9)");
        BellThatIsADoor x = new BellThatIsADoor();
        for (int k = 0; k < 8; k++) {
            DUE.is("keep(0, 1, " + k + ", 0)", x.keep(0, 1, k, 0), 0);
            DUE.is("keep(0, 1, " + k + ", 9)", x.keep(0, 1, k, 9), 0);
            DUE.is("keep(0, 1, " + k + ", -1)", x.keep(0, 1, k, -1), -1);
            DUE.is("keep(0, 1, " + k + ", 10)", x.keep(0, 1, k, 10), -1);
        }
        DUE.is("FIGURE 0", one(0, 0).bell(0, 1), 0);
        DUE.is("FIGURE 9", one(0, 9).bell(0, 1), 9);
        DUE.is("FIGURE 9 of a text", Due.marshOf("b0900;").bell(0, 1), 9);
    }

    private static void placeRange() {
        DUE.sentence("a PLACE (0 .. 30)");
        BellThatIsADoor x = new BellThatIsADoor();
        x.keep(0, 1, 2, 0);
        DUE.is("comes(0, -1)", x.comes(0, -1), -1);
        DUE.is("comes(0, 31)", x.comes(0, 31), -1);
        DUE.is("comes(0, 0)", x.comes(0, 0), 0);
        DUE.is("comes(0, 30)", x.comes(0, 30), 1);
        DUE.is("PLACE 0", x.bell(0, 2), 0);
        DUE.is("PLACE 30", x.bell(1, 2), 30);
        DUE.is("moves(0, -1)", x.moves(0, -1), -1);
        DUE.is("moves(0, 31)", x.moves(0, 31), -1);
        DUE.is("moves(0, 30)", x.moves(0, 30), 0);
        DUE.is("moves(0, 0)", x.moves(0, 0), 30);
        DUE.is("nearest(-1, 1)", x.nearest(-1, 1), -1);
        DUE.is("nearest(31, 1)", x.nearest(31, 1), -1);
        DUE.is("nearest(0, 0)", x.nearest(0, 0), 0);
        DUE.is("nearest(30, 0)", x.nearest(30, 0), 1);
        DUE.is("errands(-1, 1, -1)", x.errands(-1, 1, -1), -1);
        DUE.is("errands(31, 1, -1)", x.errands(31, 1, -1), -1);
        DUE.is("errands(0, 1, -1)", x.errands(0, 1, -1), 1);
        DUE.is("errands(30, 1, -1)", x.errands(30, 1, -1), 4);
    }

    private static void rungRange() {
        DUE.sentence("RUNG (.. 0 .. 9; 0 at first)");
        BellThatIsADoor x = one(7, 9);
        int[] heard = {2, 5, 7, 10, 12, 15, 17, 20, 22};
        for (int i = 0; i < 9; i++) {
            DUE.is("RUNG ahead", x.bell(0, 3), i);
            DUE.is("rings(0)", x.rings(0), heard[i]);
        }
        DUE.is("RUNG 9", x.bell(0, 3), 9);
        DUE.is("count(3)", x.count(3), 9);
        DUE.is("the tenth", x.rings(0), 125);
        DUE.is("RUNG", x.bell(0, 3), 0);
    }

    private static void rungSinceItOpened() {
        DUE.sentence("RUNG (times since it opened last ..)");
        BellThatIsADoor x = one(1, 0);
        int[] rung = {1, 0, 1, 0, 1};
        for (int due : rung) {
            x.rings(0);
            DUE.is("RUNG", x.bell(0, 3), due);
        }
        DUE.is("OPENED", x.bell(0, 4), 2);
        x.hours(24);
        DUE.is("a DAY of no rings", x.bell(0, 3), 1);
        x.hours(4);
        DUE.is("HOUR 12, nobody HOME, not rung", x.bell(0, 3), 1);
        x.hours(12);
        DUE.is("HOUR 0, rung again", x.rings(0), 103);
    }

    private static void openedRange() {
        DUE.sentence("OPENED (times; 0 .. 99; 0 at first) .. OPENED is 1 more (99 at most)");
        BellThatIsADoor x = one(2, 0);
        DUE.is("at first", x.bell(0, 4), 0);
        for (int i = 1; i <= 102; i++) {
            DUE.is("rings(0)", x.rings(0), 100);
            DUE.is("OPENED behind " + i, x.bell(0, 4), i < 99 ? i : 99);
        }
        DUE.is("all OPENED", x.count(4), 99);
        DUE.is("a text rings it", Due.text(x, "r0;"), 1);
        DUE.is("OPENED", x.bell(0, 4), 99);
        DUE.is("THE IMAGE", x.image(), 0);
        DUE.is("RESTORED", x.restore(), 0);
        DUE.is("OPENED", x.bell(0, 4), 99);
        DUE.sentence("OPENED more is how many times it opens, also beyond 99");
        DUE.is("behind(0, 60, 0)", x.behind(0, 60, 0), 60);
        DUE.is("run(0)", x.run(0), 1);
        DUE.is("days(20, 1, 0)", x.days(20, 1, 0), 240);
        DUE.is("days(8, 1, 0)", x.days(8, 1, 0), 96);
        DUE.is("days(9, 1, 0)", x.days(9, 1, 0), 108);
    }

    private static void hourRange() {
        DUE.sentence("HOUR (0 .. 23; 8 at first)");
        BellThatIsADoor x = one(6, 9);
        DUE.is("at first", x.count(1), 8);
        for (int i = 1; i <= 48; i++) {
            DUE.is("hours(1)", x.hours(1), (8 + i) % 24);
            DUE.is("HOUR", x.count(1), (8 + i) % 24);
        }
        DUE.is("home(-1)", x.home(-1), -1);
        DUE.is("home(0)", x.home(0), 1);
        DUE.is("home(23)", x.home(23), 0);
        DUE.is("home(24)", x.home(24), -1);
    }

    private static void dayRange() {
        DUE.sentence("DAY (0 .. 999; 0 at first)");
        BellThatIsADoor x = new BellThatIsADoor();
        DUE.is("at first", x.count(2), 0);
        Samples.toTheLastHour(x);
        DUE.is("the last HOUR", x.count(1), 23);
        DUE.is("the last DAY", x.count(2), 999);
    }

    private static void dayStaysBelowThousand() {
        DUE.sentence("hours: -3 DAY above 999");
        BellThatIsADoor x = new BellThatIsADoor();
        x.image();
        Samples.toTheLastHour(x);
        DUE.is("one HOUR more", x.hours(1), -3);
        DUE.is("99 HOURS more", x.hours(99), -3);
        DUE.is("HOUR", x.count(1), 23);
        DUE.is("DAY", x.count(2), 999);
        x.restore();
        for (int i = 0; i < 242; i++) {
            x.hours(99);
        }
        DUE.is("HOUR 8 and 23958", x.count(1), 14);
        DUE.is("its DAY", x.count(2), 998);
        DUE.is("34 HOURS would be DAY 1000", x.hours(34), -3);
        DUE.is("nothing goes by", x.count(1), 14);
        DUE.is("33 HOURS are the last one", x.hours(33), 23);
        DUE.is("DAY", x.count(2), 999);
    }

    private static void kindRange() {
        DUE.sentence("KINDS: 0 BELL .. 7 MARBLE");
        BellThatIsADoor x = new BellThatIsADoor();
        DUE.is("keep(0, 1, -1, 0)", x.keep(0, 1, -1, 0), -1);
        DUE.is("keep(0, 1, 8, 0)", x.keep(0, 1, 8, 0), -1);
        DUE.is("nothing is held", x.cost(0), -11);
        DUE.is("keep(0, 1, 0, 0)", x.keep(0, 1, 0, 0), 0);
        DUE.is("a BELL", x.cost(0), 3);
        DUE.is("keep(0, 1, 7, 1)", x.keep(0, 1, 7, 1), 0);
        DUE.is("a MARBLE", x.cost(0), 9);
    }

    private static void hoursAre(int kind, int figure, String due) {
        int bits = one(kind, figure).hoursOf(0);
        StringBuilder text = new StringBuilder();
        for (int h = 0; h < 24; h++) {
            text.append((bits >> h & 1) == 0 ? '.' : 'x');
        }
        DUE.same("HOURS of KIND " + kind + ", FIGURE " + figure, text.toString(), due);
        DUE.is("behind HOUR 23", bits >> 24, 0);
    }

    private static void bellHome() {
        DUE.sentence("HOME: BELL from FIGURE on for 12 HOURS (going round)");
        hoursAre(0, 0, "xxxxxxxxxxxx............");
        hoursAre(0, 1, ".xxxxxxxxxxxx...........");
        hoursAre(0, 5, ".....xxxxxxxxxxxx.......");
        hoursAre(0, 9, ".........xxxxxxxxxxxx...");
        for (int f = 0; f <= 9; f++) {
            BellThatIsADoor x = one(0, f);
            DUE.is("one HOUR ahead", f == 0 ? 0 : x.home(f - 1), 0);
            DUE.is("the first", x.home(f), 1);
            DUE.is("the last", x.home(f + 11), 1);
            DUE.is("one behind", x.home(f + 12), 0);
            x.hours(16 + f);
            DUE.is("the next DAY, too", x.bell(0, 7), 1);
        }
    }

    private static void doorHome() {
        DUE.sentence("DOOR as a BELL, but not at 12 and 13");
        hoursAre(1, 0, "xxxxxxxxxxxx............");
        hoursAre(1, 1, ".xxxxxxxxxxx............");
        hoursAre(1, 2, "..xxxxxxxxxx............");
        hoursAre(1, 3, "...xxxxxxxxx..x.........");
        hoursAre(1, 9, ".........xxx..xxxxxxx...");
    }

    private static void henHome() {
        DUE.sentence("HEN always");
        hoursAre(2, 0, "xxxxxxxxxxxxxxxxxxxxxxxx");
        hoursAre(2, 9, "xxxxxxxxxxxxxxxxxxxxxxxx");
    }

    private static void coughHome() {
        DUE.sentence("COUGH just when a DOOR is not");
        hoursAre(3, 0, "............xxxxxxxxxxxx");
        hoursAre(3, 1, "x...........xxxxxxxxxxxx");
        hoursAre(3, 3, "xxx.........xx.xxxxxxxxx");
        hoursAre(3, 9, "xxxxxxxxx...xx.......xxx");
    }

    private static void maidHome() {
        DUE.sentence("MAID in HOURS that are even, as a DOOR's");
        hoursAre(4, 0, "x.x.x.x.x.x.............");
        hoursAre(4, 1, "..x.x.x.x.x.............");
        hoursAre(4, 3, "....x.x.x.x...x.........");
        hoursAre(4, 9, "..........x...x.x.x.x...");
    }

    private static void suitedHome() {
        DUE.sentence("SUITED never");
        hoursAre(5, 0, "........................");
        hoursAre(5, 9, "........................");
    }

    private static void echoHome() {
        DUE.sentence("ECHO in HOURS which FIGURE and 1 divides (0, too)");
        hoursAre(6, 0, "xxxxxxxxxxxxxxxxxxxxxxxx");
        hoursAre(6, 1, "x.x.x.x.x.x.x.x.x.x.x.x.");
        hoursAre(6, 2, "x..x..x..x..x..x..x..x..");
        hoursAre(6, 4, "x....x....x....x....x...");
        hoursAre(6, 7, "x.......x.......x.......");
        hoursAre(6, 9, "x.........x.........x...");
    }

    private static void marbleHome() {
        DUE.sentence("MARBLE as a COUGH, and at 0");
        hoursAre(7, 0, "x...........xxxxxxxxxxxx");
        hoursAre(7, 1, "x...........xxxxxxxxxxxx");
        hoursAre(7, 2, "xx..........xxxxxxxxxxxx");
        hoursAre(7, 9, "xxxxxxxxx...xx.......xxx");
    }

    private static void toldOfAll(int what, int[][] due) {
        for (int k = 0; k < 8; k++) {
            for (int f = 0; f <= 9; f++) {
                DUE.is("KIND " + k + ", FIGURE " + f, one(k, f).bell(0, what), due[k][f]);
            }
        }
    }

    private static void wantsOfAll() {
        DUE.sentence("WANTS: .. COUGH FIGURE by 3, cut, more .. ECHO FIGURE by 2, cut, and 1; MARBLE twice a COUGH's");
        int[][] due = {{1, 1, 1, 1, 1, 1, 1, 1, 1, 1}, {2, 2, 2, 2, 2, 2, 2, 2, 2, 2},
            {1, 1, 1, 1, 1, 1, 1, 1, 1, 1}, {2, 2, 2, 3, 3, 3, 4, 4, 4, 5},
            {2, 2, 2, 2, 2, 2, 2, 2, 2, 2}, {2, 2, 2, 2, 2, 2, 2, 2, 2, 2},
            {1, 1, 2, 2, 3, 3, 4, 4, 5, 5}, {4, 4, 4, 6, 6, 6, 8, 8, 8, 10}};
        toldOfAll(5, due);
    }

    private static void stepsOfAll() {
        DUE.sentence("STEPS: .. HEN 0; COUGH twice a DOOR's; MAID half of a DOOR's, cut; ECHO 9 less FIGURE");
        int[][] due = {{1, 2, 3, 4, 5, 6, 7, 8, 9, 10}, {3, 4, 5, 6, 7, 8, 9, 10, 11, 12},
            {0, 0, 0, 0, 0, 0, 0, 0, 0, 0}, {6, 8, 10, 12, 14, 16, 18, 20, 22, 24},
            {1, 2, 2, 3, 3, 4, 4, 5, 5, 6}, {1, 2, 2, 3, 3, 4, 4, 5, 5, 6},
            {9, 8, 7, 6, 5, 4, 3, 2, 1, 0}, {7, 9, 11, 13, 15, 17, 19, 21, 23, 25}};
        toldOfAll(6, due);
    }

    private static void nobodyHome() {
        DUE.sentence("nobody HOME: nothing is HEARD (0), RUNG is 0");
        BellThatIsADoor x = one(1, 3);
        DUE.is("at 8", x.rings(0), 3);
        DUE.is("RUNG", x.bell(0, 3), 1);
        x.hours(4);
        DUE.is("at 12", x.rings(0), 0);
        DUE.is("RUNG", x.bell(0, 3), 0);
        DUE.is("OPENED", x.bell(0, 4), 0);
        x.hours(2);
        DUE.is("at 14", x.rings(0), 3);
        DUE.is("again", x.rings(0), 106);
        x.hours(1);
        DUE.is("at 15", x.rings(0), 0);
        DUE.is("RUNG that was 0", x.bell(0, 3), 0);
        DUE.is("SUITED", one(5, 9).rings(0), 0);
        BellThatIsADoor two = Due.marshOf("b7900;b1300;r0;r1;h04;");
        DUE.is("the other at 12", two.rings(1), 0);
        DUE.is("its RUNG", two.bell(1, 3), 0);
        DUE.is("RUNG of the one", two.bell(0, 3), 1);
    }

    private static void rungIsOneMore() {
        DUE.sentence("HOME: RUNG is 1 more");
        BellThatIsADoor x = Due.marshOf("b7900;b7900;");
        x.rings(0);
        x.rings(0);
        x.rings(1);
        DUE.is("of the one", x.bell(0, 3), 2);
        DUE.is("of the other", x.bell(1, 3), 1);
        DUE.is("no HOUR goes by", x.count(1), 8);
    }

    private static void wantsOrMore() {
        DUE.sentence("is it WANTS or more then, it opens: HEARD is STEPS and 100, OPENED is 1 more, RUNG 0");
        BellThatIsADoor x = one(3, 9);
        for (int i = 1; i <= 4; i++) {
            DUE.is("one of the first four opens", x.rings(0) >= 100 ? 1 : 0, 0);
            DUE.is("OPENED", x.bell(0, 4), 0);
        }
        DUE.is("the fifth", x.rings(0), 124);
        DUE.is("OPENED", x.bell(0, 4), 1);
        DUE.is("RUNG", x.bell(0, 3), 0);
        // RUNG 4 of a COUGH is as RUNG now of other KINDS: WANTS of a BELL and of a DOOR is less than that.
        for (int i = 0; i < 4; i++) {
            x.rings(0);
        }
        Due.list(x, 1, 1, -32768, 110, -32768, -32768);
        DUE.is("a BELL, RUNG more than it WANTS", x.whatRang(1, 0, 0), Due.bits(0));
        x.hours(1);
        Due.list(x, 1, 1, 112);
        DUE.is("a DOOR, RUNG more than it WANTS", x.whatRang(1, 0, 0), Due.bits(1));
    }

    private static void elseAPart() {
        DUE.sentence("else HEARD is STEPS times RUNG by WANTS, cut");
        BellThatIsADoor cough = Due.marshOf("b3300;h04;");
        DUE.is("12 by 3", cough.rings(0), 4);
        DUE.is("24 by 3", cough.rings(0), 8);
        DUE.is("it opens", cough.rings(0), 112);
        BellThatIsADoor echo = Due.marshOf("b6500;h10;");
        int[] heard = {1, 2, 104};
        for (int want : heard) {
            DUE.is("4 STEPS by 3", echo.rings(0), want);
        }
        DUE.is("7 by 2", one(1, 4).rings(0), 3);
        DUE.is("12 by 2", Due.marshOf("b1900;h01;").rings(0), 6);
    }

    private static void cutToNothing() {
        DUE.sentence("STEPS times RUNG by WANTS, cut (0 of it, with somebody HOME)");
        BellThatIsADoor maid = one(4, 0);
        DUE.is("1 by 2", maid.rings(0), 0);
        DUE.is("RUNG all the same", maid.bell(0, 3), 1);
        DUE.is("it opens", maid.rings(0), 101);
        BellThatIsADoor echo = Due.marshOf("b6900;h02;");
        int[] heard = {0, 0, 0, 0, 100};
        for (int i = 0; i < heard.length; i++) {
            DUE.is("RUNG", echo.bell(0, 3), i);
            DUE.is("no STEPS", echo.rings(0), heard[i]);
        }
        DUE.is("OPENED", echo.bell(0, 4), 1);
    }

    private static void hourGoesBy() {
        DUE.sentence("An HOUR goes by: HOUR is 1 more (behind 23: 0, DAY 1 more)");
        BellThatIsADoor x = new BellThatIsADoor();
        DUE.is("hours(14)", x.hours(14), 22);
        DUE.is("hours(1)", x.hours(1), 23);
        DUE.is("DAY", x.count(2), 0);
        DUE.is("hours(1)", x.hours(1), 0);
        DUE.is("DAY", x.count(2), 1);
        DUE.is("hours(24)", x.hours(24), 0);
        DUE.is("DAY", x.count(2), 2);
        DUE.is("hours(23)", x.hours(23), 23);
        DUE.is("DAY", x.count(2), 2);
        DUE.is("hours(25)", x.hours(25), 0);
        DUE.is("DAY", x.count(2), 4);
    }

    private static void manyHoursGoBy() {
        DUE.sentence("n HOURS (1 .. 99) go by: HOUR. -1");
        BellThatIsADoor x = new BellThatIsADoor();
        DUE.is("hours(0)", x.hours(0), -1);
        DUE.is("hours(100)", x.hours(100), -1);
        DUE.is("hours(-1)", x.hours(-1), -1);
        DUE.is("HOUR", x.count(1), 8);
        DUE.is("hours(1)", x.hours(1), 9);
        DUE.is("hours(99)", x.hours(99), 12);
        DUE.is("DAY", x.count(2), 4);
    }

    private static void placeBecomesAnother() {
        DUE.sentence("PLACE becomes another one: what it was. -1");
        BellThatIsADoor x = Due.marshOf("b2030;b2004;");
        DUE.is("moves(0, 0)", x.moves(0, 0), 30);
        DUE.is("moves(0, 30)", x.moves(0, 30), 0);
        DUE.is("to where it is", x.moves(0, 30), 30);
        DUE.is("the other", x.bell(1, 2), 4);
        DUE.is("moves(1, 29)", x.moves(1, 29), 4);
        DUE.is("the other is there", x.bell(1, 2), 29);
        DUE.is("the one stays", x.bell(0, 2), 30);
        DUE.is("moves(2, 0)", x.moves(2, 0), -1);
        DUE.is("moves(-1, 0)", x.moves(-1, 0), -1);
        DUE.is("both wrong", x.moves(2, 31), -1);
    }

    private static void whatIsToldOfABell() {
        DUE.sentence("Of a BELL: KIND (what 0) .. HOME at HOUR (7: 1, 0). -1");
        BellThatIsADoor x = Due.marshOf("b3925;r0;h23;r0;h03;");
        int[] due = {3, 9, 25, 2, 0, 5, 24, 0};
        for (int what = 0; what < due.length; what++) {
            DUE.is("bell(0, " + what + ")", x.bell(0, what), due[what]);
        }
        x.hours(2);
        DUE.is("HOME at 12", x.bell(0, 7), 1);
        DUE.is("bell(0, -1)", x.bell(0, -1), -1);
        DUE.is("bell(0, 8)", x.bell(0, 8), -1);
        DUE.is("bell(-1, 0)", x.bell(-1, 0), -1);
        DUE.is("bell(1, 0)", x.bell(1, 0), -1);
        DUE.is("of none", new BellThatIsADoor().bell(0, 0), -1);
    }

    private static void newObject() {
        DUE.sentence("BellThatIsADoor(): No BELLS (and HOUR 8, DAY 0; SHELVES each hold nothing; no IMAGE)");
        BellThatIsADoor x = new BellThatIsADoor();
        int[] counts = {0, 8, 0, 0, 0, 0};
        for (int what = 0; what < counts.length; what++) {
            DUE.is("count(" + what + ")", x.count(what), counts[what]);
        }
        for (int d = 0; d < 8; d++) {
            DUE.is("cost(" + d + ")", x.cost(d), -11);
            DUE.is("put(" + d + ", 0, 0)", x.put(d, 0, 0), -11);
        }
        DUE.is("restore()", x.restore(), -3);
        DUE.is("bell(0, 0)", x.bell(0, 0), -1);
    }

    private static void refusedNothingChanges() {
        DUE.sentence("REFUSALS (answers; nothing changes) [of bell, rings, hours, moves]");
        Told.unchanged(DUE, "bell", Samples::some, x -> x.bell(1, 4), 2);
        Told.unchanged(DUE, "bell(3, 0)", Samples::some, x -> x.bell(3, 0), -1);
        Told.unchanged(DUE, "bell(0, 8)", Samples::some, x -> x.bell(0, 8), -1);
        Told.unchanged(DUE, "rings(-1)", Samples::some, x -> x.rings(-1), -1);
        Told.unchanged(DUE, "rings(3)", Samples::some, x -> x.rings(3), -1);
        Told.unchanged(DUE, "rings(6)", Samples::full, x -> x.rings(6), -1);
        Told.unchanged(DUE, "moves(3, 0)", Samples::some, x -> x.moves(3, 0), -1);
        Told.unchanged(DUE, "moves(0, 31)", Samples::some, x -> x.moves(0, 31), -1);
        Told.unchanged(DUE, "moves(0, -1)", Samples::some, x -> x.moves(0, -1), -1);
        Told.unchanged(DUE, "hours(0)", Samples::some, x -> x.hours(0), -1);
        Told.unchanged(DUE, "hours(100)", Samples::last, x -> x.hours(100), -1);
        Told.unchanged(DUE, "hours(1)", Samples::last, x -> x.hours(1), -3);
        Told.unchanged(DUE, "hours(99)", Samples::last, x -> x.hours(99), -3);
    }
}
