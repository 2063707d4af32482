/** A test for each sentence that names a bound of THE IMAGE and of what is told of all (promises 30 to 32). */
public final class BoundsOfImageTest {
    private static final Due DUE = new Due("BoundsOfImageTest");

    public static void main(String[] args) {
        noImageAtFirst();
        allThatThereIs();
        imageOfNothing();
        imageOfAllThatIsFull();
        imageOfTheLastDay();
        imageStays();
        imageIsTakenAgain();
        butShelves();
        refusedCallsLeaveIt();
        imageTellsDay();
        restoreTellsDay();
        countsOfAll();
        countsAtTheirMost();
        countIsRefused();
        DUE.end();
    }

    private static void noImageAtFirst() {
        DUE.sentence("restore: -3 there is none");
        DUE.is("a new object", new BellThatIsADoor().restore(), -3);
        Told.unchanged(DUE, "no IMAGE was taken", Samples::none, x -> x.restore(), -3);
        Told.unchanged(DUE, "BELLS, but no IMAGE", () -> Due.marshOf("b2000;b7900;r0;r1;h99;"), x -> x.restore(), -3);
        BellThatIsADoor x = new BellThatIsADoor();
        DUE.is("image()", x.image(), 0);
        DUE.is("there is one", x.restore(), 0);
    }

    private static void restored(String what, BellThatIsADoor x, String change) {
        String ahead = Told.marsh(x);
        int day = x.image();
        DUE.is(what + " is done", Due.text(x, change) > 0 ? 1 : 0, 1);
        DUE.is(what + " is seen", Told.marsh(x).equals(ahead) ? 0 : 1, 1);
        DUE.is("restore()", x.restore(), day);
        DUE.same(what, Told.marsh(x), ahead);
    }

    private static void allThatThereIs() {
        DUE.sentence("THE IMAGE: all that there is .. RESTORED all is as it was then");
        String text = "b7912;b2030;b1001;r0;r1;r2;h26;r2;";
        restored("PLACE", Due.marshOf(text), "p030;");
        restored("RUNG", Due.marshOf(text), "r2;");
        restored("RUNG that becomes 0", Due.marshOf(text), "r0;");
        restored("OPENED", Due.marshOf(text), "r1;");
        restored("HOUR", Due.marshOf(text), "h01;");
        restored("DAY", Due.marshOf(text), "h24;");
        restored("a BELL more", Due.marshOf(text), "b0000;");
        restored("all of it", Due.marshOf(text), "b6900;b4111;p000;r3;r2;r2;r1;h99;r0;");
    }

    private static void imageOfNothing() {
        DUE.sentence("THE IMAGE: all that there is [of no BELLS]");
        restored("the first BELL", new BellThatIsADoor(), "b2000;");
        restored("HOUR", new BellThatIsADoor(), "h15;");
        BellThatIsADoor x = new BellThatIsADoor();
        x.image();
        Due.text(x, "b3900;r0;r0;r0;r0;");
        x.restore();
        Due.text(x, "b3900;");
        DUE.is("another one there is rung anew", x.bell(0, 3), 0);
        DUE.is("and has not opened", x.bell(0, 4), 0);
        x.behind(0, 9, 0);
        x.restore();
        DUE.is("days: there are none", x.days(1, 1, 0), -3);
        DUE.is("bell: no such one", x.bell(0, 0), -1);
        DUE.is("rings", x.rings(0), -1);
        DUE.is("moves", x.moves(0, 0), -1);
        DUE.is("hoursOf", x.hoursOf(0), -1);
        DUE.is("behind", x.behind(0, 1, 0), -1);
        DUE.is("soonest", x.soonest(0), -1);
        DUE.is("fewest", x.fewest(0, 1), -1);
        DUE.is("errands", x.errands(0, 1, -1), -1);
        DUE.is("odds", x.odds(0, 1, 2, 0), 1000000001L);
        x.row(0, 0, 0);
        DUE.is("whatRang", x.whatRang(0, 0, 0), -1);
        DUE.is("tell", x.tell(0, 0, 0), -1);
        DUE.is("mean: 0 by 1 of none", x.mean(1), 1);
        DUE.is("nearest: none", x.nearest(0, 0), -4);
        DUE.is("first: none", x.first(), -4);
        DUE.is("home: none", x.home(0), 0);
    }

    private static void imageOfAllThatIsFull() {
        DUE.sentence("THE IMAGE: all that there is [of six BELLS]");
        BellThatIsADoor x = Samples.full();
        restored("the last of six", x, "p530;r5;");
        DUE.is("there is still no room", x.comes(Samples.HEN, 0), -2);
        BellThatIsADoor five = Due.marshOf("b2000;b2000;b2000;b2000;b2000;");
        restored("the sixth", five, "b7930;");
        DUE.is("there is room for it again", Due.text(five, "b3900;"), 1);
        DUE.is("its KIND", five.bell(5, 0), 3);
    }

    private static void imageOfTheLastDay() {
        DUE.sentence("DAY (0 .. 999) of THE IMAGE");
        BellThatIsADoor x = new BellThatIsADoor();
        x.image();
        Samples.toTheLastHour(x);
        DUE.is("restore()", x.restore(), 0);
        DUE.is("HOUR", x.count(1), 8);
        Samples.toTheLastHour(x);
        DUE.is("image()", x.image(), 999);
        DUE.is("restore()", x.restore(), 999);
        DUE.is("HOUR", x.count(1), 23);
        DUE.is("an HOUR more", x.hours(1), -3);
    }

    private static void imageStays() {
        DUE.sentence("all that there is, but .. (.. THE IMAGE) [it stays when it is RESTORED]");
        BellThatIsADoor x = Due.marshOf("b1000;r0;");
        x.image();
        String ahead = Told.marsh(x);
        for (int i = 0; i < 3; i++) {
            Due.text(x, "r0;h48;b2000;p030;");
            DUE.is("restore()", x.restore(), 0);
            DUE.same("THE IMAGE, the " + (i + 1) + ". time", Told.marsh(x), ahead);
        }
        x.rings(0);
        x.moves(0, 9);
        DUE.is("what comes behind it is not of THE IMAGE", x.restore(), 0);
        DUE.same("THE IMAGE", Told.marsh(x), ahead);
    }

    private static void imageIsTakenAgain() {
        DUE.sentence("THE IMAGE is taken [again: there is one alone]");
        BellThatIsADoor x = Due.marshOf("b2000;");
        x.image();
        Due.text(x, "r0;h24;");
        String ahead = Told.marsh(x);
        DUE.is("image()", x.image(), 1);
        Due.text(x, "r0;h24;b2000;");
        DUE.is("restore()", x.restore(), 1);
        DUE.same("the later one", Told.marsh(x), ahead);
    }

    private static void butShelves() {
        DUE.sentence("when THE IMAGE is RESTORED, SHELVES stay as they are");
        BellThatIsADoor x = Samples.some();
        x.image();
        x.keep(0, 0, 0, 0);
        x.put(1, 0, -5);
        x.row(2, 1, 2);
        x.keep(3, 1, 1, 7);
        x.keep(4, 1, 0, 3);
        x.row(5, 2, 100);
        x.copy(6, 0, 6, 1, 2);
        x.row(7, 0, 0);
        String ahead = Told.shelves(x);
        x.restore();
        DUE.same("SHELVES", Told.shelves(x), ahead);
        DUE.is("BELLS, THE IMAGE of", x.count(0), 3);
        x.image();
        DUE.same("SHELVES of an IMAGE", Told.shelves(x), ahead);
    }

    private static void refusedCallsLeaveIt() {
        DUE.sentence("REFUSALS (answers; nothing changes) [nor THE IMAGE]");
        Told.unchanged(DUE, "a text at fault", () -> someWith("b2000;h00;"), x -> x.marsh(0), -2006);
        Told.unchanged(DUE, "a text that lacks", () -> someWith("b2000;h0;"), x -> x.marsh(0), -1008);
        Told.unchanged(DUE, "a good text at first, then a FAULT", () -> someWith("r1;p100;b2000;h01;r4;"),
            x -> x.marsh(0), -2018);
        Told.unchanged(DUE, "a second thing in mind", () -> someWith("r1;p100;b2000;h01;r4;"),
            x -> x.marsh(0) + x.behind(1, 60, 0) + x.run(0), -2018 + 60 + 2);
    }

    private static BellThatIsADoor someWith(String text) {
        BellThatIsADoor x = Samples.some();
        Due.shelve(x, 0, text);
        return x;
    }

    private static void imageTellsDay() {
        DUE.sentence("image: THE IMAGE is taken: DAY");
        BellThatIsADoor x = new BellThatIsADoor();
        DUE.is("DAY 0", x.image(), 0);
        x.hours(15);
        DUE.is("at 23", x.image(), 0);
        x.hours(1);
        DUE.is("at 0", x.image(), 1);
        Told.unchanged(DUE, "image() of an IMAGE", () -> imagedSome(), y -> y.image(), 2);
    }

    private static BellThatIsADoor imagedSome() {
        BellThatIsADoor x = Samples.some();
        x.image();
        return x;
    }

    private static void restoreTellsDay() {
        DUE.sentence("restore: THE IMAGE is RESTORED: DAY");
        BellThatIsADoor x = new BellThatIsADoor();
        x.hours(16);
        x.image();
        x.hours(99);
        DUE.is("DAY, that of THE IMAGE", x.restore(), 1);
        DUE.is("count(2)", x.count(2), 1);
        DUE.is("HOUR", x.count(1), 0);
    }

    private static void counts(BellThatIsADoor x, int... due) {
        for (int what = 0; what < due.length; what++) {
            DUE.is("count(" + what + ")", x.count(what), due[what]);
        }
    }

    private static void countsOfAll() {
        DUE.sentence("count: 0 BELLS, 1 HOUR, 2 DAY, 3 all RUNG, 4 all OPENED, 5 all STEPS");
        counts(new BellThatIsADoor(), 0, 8, 0, 0, 0, 0);
        counts(Due.marshOf("b7900;b3900;b2000;b0800;r0;r0;r1;r2;r2;r3;h31;"), 4, 15, 1, 3, 3, 25 + 24 + 0 + 9);
    }

    private static void countsAtTheirMost() {
        DUE.sentence("RUNG (.. 0 .. 9 ..), OPENED (.. 0 .. 99 ..) [all of six together]");
        BellThatIsADoor rung = Due.marshOf("b7900;b7900;b7900;b7900;b7900;b7900;");
        StringBuilder text = new StringBuilder();
        for (int i = 0; i < 27; i++) {
            text.append('r').append(i / 9).append(';');
        }
        Due.text(rung, text.toString());
        Due.text(rung, text.toString().replace('0', '3').replace('1', '4').replace('2', '5'));
        counts(rung, 6, 8, 0, 54, 0, 150);
        BellThatIsADoor opened = Due.marshOf("b2000;b2000;b2000;b2000;b2000;b2000;");
        String six = "r0;r1;r2;r3;r4;r5;";
        Due.text(opened, six + six + six + six + six);
        for (int i = 0; i < 20; i++) {
            opened.marsh(0);
        }
        counts(opened, 6, 8, 0, 0, 594, 0);
    }

    private static void countIsRefused() {
        DUE.sentence("count: -1 for others");
        int[] out = {-1, 6, 7, Integer.MIN_VALUE, Integer.MAX_VALUE};
        for (int what : out) {
            Told.unchanged(DUE, "count(" + what + ")", Samples::some, x -> x.count(what), -1);
        }
        Told.unchanged(DUE, "count(3)", Samples::some, x -> x.count(3), 2);
    }
}
