/** A test for each sentence that names a bound of who is HOME, and of ringing in mind (promises 8 to 14). */
public final class BoundsOfHomeTest {
    private static final Due DUE = new Due("BoundsOfHomeTest");

    public static void main(String[] args) {
        homeAtAnHour();
        hoursOfOne();
        behindSoManyRings();
        behindNoRings();
        firstRingIsNow();
        behindGoesRound();
        behindBeyondTheLastDay();
        behindWithRung();
        soonestNow();
        soonestInSomeHours();
        soonestAtItsLatest();
        soonestNever();
        soonestGoesRound();
        fewestWithin();
        fewestHoursRange();
        fewestNever();
        fewestByRung();
        neverBits();
        firstOfAll();
        firstOfNone();
        inMindNothingChanges();
        DUE.end();
    }

    private static void homeAtAnHour() {
        DUE.sentence("HOME: BELLS (bits) of those HOME at an HOUR (0 .. 23). -1");
        BellThatIsADoor x = Due.marshOf("b6200;b2000;b5000;b0000;b3000;b7000;");
        DUE.is("home(0)", x.home(0), Due.bits(0, 1, 3, 5));
        DUE.is("home(11)", x.home(11), Due.bits(1, 3));
        DUE.is("home(12)", x.home(12), Due.bits(0, 1, 4, 5));
        DUE.is("home(23)", x.home(23), Due.bits(1, 4, 5));
        int[] out = {-1, 24, Integer.MIN_VALUE, Integer.MAX_VALUE};
        for (int hour : out) {
            Told.unchanged(DUE, "home(" + hour + ")", Samples::some, y -> y.home(hour), -1);
        }
        DUE.is("none", new BellThatIsADoor().home(0), 0);
        DUE.is("none", new BellThatIsADoor().home(23), 0);
        DUE.is("none, and no such HOUR", new BellThatIsADoor().home(24), -1);
        BellThatIsADoor six = Due.marshOf("b2000;b2000;b2000;b2000;b2000;b2000;");
        DUE.is("all six", six.home(7), 63);
    }

    private static void hoursOfOne() {
        DUE.sentence("HOURS (bits) of one. -1");
        BellThatIsADoor x = Due.marshOf("b2000;b5000;b6900;");
        DUE.is("a HEN", x.hoursOf(0), (1 << 24) - 1);
        DUE.is("SUITED", x.hoursOf(1), 0);
        DUE.is("an ECHO", x.hoursOf(2), Due.bits(0, 10, 20));
        int[] out = {-1, 3, 6, 32, Integer.MIN_VALUE, Integer.MAX_VALUE};
        for (int b : out) {
            Told.unchanged(DUE, "hoursOf(" + b + ")", Samples::some, y -> y.hoursOf(b), -1);
        }
        DUE.is("of none", new BellThatIsADoor().hoursOf(0), -1);
    }

    private static void behindSoManyRings() {
        DUE.sentence("BEHIND n rings (0 .. 60): OPENED of one more; what the n-th of them HEARS. -1");
        BellThatIsADoor x = Due.marshOf("b2000;b0000;");
        DUE.is("59 rings", x.behind(0, 59, 0), 59);
        DUE.is("60 rings", x.behind(0, 60, 0), 60);
        DUE.is("the 60-th", x.behind(0, 60, 1), 100);
        // A BELL at 8 .. 11, 0 .. 11, 0 .. 11: the 60-th ring is at 19.
        DUE.is("60 rings of a BELL", x.behind(1, 60, 0), 28);
        DUE.is("its 52-nd", x.behind(1, 52, 1), 101);
        DUE.is("its 53-rd", x.behind(1, 53, 1), 0);
        DUE.is("its 60-th", x.behind(1, 60, 1), 0);
        for (int what = 0; what < 2; what++) {
            int w = what;
            Told.unchanged(DUE, "61 rings", Samples::some, y -> y.behind(0, 61, w), -1);
            Told.unchanged(DUE, "-1 rings", Samples::some, y -> y.behind(0, -1, w), -1);
            Told.unchanged(DUE, "no BELL 3", Samples::some, y -> y.behind(3, 0, w), -1);
            Told.unchanged(DUE, "no BELL -1", Samples::some, y -> y.behind(-1, 1, w), -1);
        }
        Told.unchanged(DUE, "what 2", Samples::some, y -> y.behind(0, 1, 2), -1);
        Told.unchanged(DUE, "what -1", Samples::some, y -> y.behind(0, 0, -1), -1);
        Told.unchanged(DUE, "no BELL 6", Samples::full, y -> y.behind(6, 1, 0), -1);
        DUE.is("of none", new BellThatIsADoor().behind(0, 0, 0), -1);
    }

    private static void behindNoRings() {
        DUE.sentence("what the n-th HEARS (1; -4 n 0)");
        BellThatIsADoor x = Due.marshOf("b2000;b5000;");
        for (int b = 0; b < 2; b++) {
            DUE.is("OPENED behind none", x.behind(b, 0, 0), 0);
            DUE.is("HEARD of none", x.behind(b, 0, 1), -4);
        }
        DUE.is("HEARD of the first", x.behind(0, 1, 1), 100);
        DUE.is("HEARD of the first, SUITED", x.behind(1, 1, 1), 0);
    }

    private static void firstRingIsNow() {
        DUE.sentence("ringing each HOUR from now on (the first now) .. What is rung in an HOUR is rung ahead of that HOUR's going by");
        BellThatIsADoor x = Due.marshOf("b0000;b0900;h03;");
        // HOUR is 11, the last one of the first.
        DUE.is("the first ring is at 11", x.behind(0, 1, 1), 101);
        DUE.is("the second at 12", x.behind(0, 2, 1), 0);
        BellThatIsADoor eight = Due.marshOf("b0900;");
        DUE.is("at 8", eight.behind(0, 1, 1), 0);
        DUE.is("at 9", eight.behind(0, 2, 1), 110);
    }

    private static void behindGoesRound() {
        DUE.sentence("an HOUR goes by: behind 23: 0 (in mind, too)");
        BellThatIsADoor x = Due.marshOf("b6900;b1000;h14;");
        // HOUR is 22; an ECHO that WANTS 5 is rung at 22, 23, 0, 1 ..: never five HOURS of it.
        DUE.is("at 0", x.behind(0, 3, 1), 0);
        DUE.is("no five", x.behind(0, 60, 0), 0);
        DUE.is("a DOOR at 0", x.behind(1, 3, 1), 1);
        DUE.is("and at 1", x.behind(1, 4, 1), 103);
        DUE.is("at 23", x.behind(1, 2, 1), 0);
    }

    private static void behindBeyondTheLastDay() {
        DUE.sentence("In mind (DAY above 999 is no bound of it)");
        BellThatIsADoor x = Samples.last();
        DUE.is("a HEN", x.behind(0, 60, 0), 60);
        DUE.is("a MARBLE at 23 with RUNG 1, 0, 12, 13", x.behind(1, 4, 0), 0);
        DUE.is("its ring at 0", x.behind(1, 2, 1), 9 * 3 / 4);
        DUE.is("DAY", x.count(2), 999);
        DUE.is("HOUR", x.count(1), 23);
        DUE.is("SOONEST at 0, 12", x.soonest(1), 13);
        DUE.is("an errand on DAY 1000", x.errands(11, 1, -1), 3);
        DUE.is("days(20, 1, 0)", x.days(20, 1, 0) >= 0 ? 1 : 0, 1);
        Due.list(x, Samples.LIST, 0, 0, 0, 0);
        DUE.is("forged", x.forged(Samples.LIST), -4);
        Due.list(x, Samples.LIST, 0, 2, 2, 1);
        DUE.is("judge", x.judge(Samples.LIST), -4);
        Due.list(x, Samples.LIST, 0, 2, 2, 2);
        DUE.is("judge", x.judge(Samples.LIST), 2);
        Due.list(x, Samples.LIST, 0, 100, 100, 100);
        DUE.is("whatRang", x.whatRang(Samples.LIST, 0, 0), Due.bits(2));
        DUE.is("DAY", x.count(2), 999);
    }

    private static void behindWithRung() {
        DUE.sentence("In mind: RUNG as it is now");
        BellThatIsADoor x = Due.marshOf("b1000;r0;");
        DUE.is("the first opens", x.behind(0, 1, 1), 103);
        DUE.is("OPENED behind 3", x.behind(0, 3, 0), 2);
        DUE.is("OPENED behind 4", x.behind(0, 4, 0), 2);
        DUE.is("RUNG", x.bell(0, 3), 1);
    }

    private static void soonestNow() {
        DUE.sentence("SOONEST: .. in the HOUR behind how many it opens first (0 now .. 47)");
        BellThatIsADoor x = Due.marshOf("b2000;b0800;b0900;b1000;b1000;r4;");
        int[] due = {0, 0, 1, 1, 0};
        for (int b = 0; b < due.length; b++) {
            DUE.is("soonest(" + b + ")", x.soonest(b), due[b]);
        }
        int[] out = {-1, 3, 6, Integer.MIN_VALUE, Integer.MAX_VALUE};
        for (int b : out) {
            Told.unchanged(DUE, "soonest(" + b + ")", Samples::some, y -> y.soonest(b), -1);
        }
        DUE.is("of none", new BellThatIsADoor().soonest(0), -1);
    }

    private static void soonestInSomeHours() {
        DUE.sentence("ringing in some of the HOURS from now on (each once, or not)");
        BellThatIsADoor maid = Due.marshOf("b4000;");
        DUE.is("at 8 and 10", maid.soonest(0), 2);
        DUE.is("not by ringing at 8, 9 and 10", maid.behind(0, 3, 0), 0);
        BellThatIsADoor echo = Due.marshOf("b6400;h02;");
        DUE.is("at 10, 15, 20", echo.soonest(0), 10);
        BellThatIsADoor door = Due.marshOf("b1900;h03;");
        DUE.is("at 11 and 14", door.soonest(0), 3);
    }

    private static void soonestAtItsLatest() {
        DUE.sentence("0 now .. 47");
        // No one but SUITED takes longer than an ECHO of FIGURE 9 from 1 on: 10, 20, 0, 10, 20.
        BellThatIsADoor x = Due.marshOf("b6900;h17;");
        DUE.is("HOUR", x.count(1), 1);
        DUE.is("43", x.soonest(0), 43);
        DUE.is("it is in never", x.never(), 0);
        DUE.is("it is first", x.first(), 0);
        int latest = 0;
        for (int k = 0; k < 8; k++) {
            for (int f = 0; f <= 9; f++) {
                BellThatIsADoor one = Due.marshOf("b" + k + f + "00;");
                for (int hour = 0; hour < 24; hour++) {
                    int soonest = one.soonest(0);
                    latest = Math.max(latest, soonest);
                    DUE.is("KIND " + k + ", FIGURE " + f + " is never", soonest == -4 ? 1 : 0, k == 5 ? 1 : 0);
                    one.hours(1);
                }
            }
        }
        DUE.is("the latest of all", latest, 43);
    }

    private static void soonestNever() {
        DUE.sentence("SOONEST; -4");
        DUE.is("SUITED", Due.marshOf("b5000;").soonest(0), -4);
        DUE.is("SUITED of FIGURE 9", Due.marshOf("b5900;r0;").soonest(0), -4);
    }

    private static void soonestGoesRound() {
        DUE.sentence("SOONEST (an HOUR behind 23 is 0)");
        DUE.is("a BELL behind its last HOUR", Due.marshOf("b0000;h04;").soonest(0), 12);
        DUE.is("a BELL at 23", Due.marshOf("b0000;h15;").soonest(0), 1);
        DUE.is("a BELL at 0", Due.marshOf("b0000;h16;").soonest(0), 0);
        DUE.is("a MAID of FIGURE 9 at 20: 20 and 10", Due.marshOf("b4900;h12;").soonest(0), 14);
        DUE.is("a MAID of FIGURE 9 at 21: 10 and 14", Due.marshOf("b4900;h13;").soonest(0), 17);
    }

    private static void fewestWithin() {
        DUE.sentence("FEWEST rings by which it opens within h HOURS from now");
        BellThatIsADoor x = Due.marshOf("b6900;h17;b2000;b1000;");
        DUE.is("44 HOURS from 1 on", x.fewest(0, 44), 5);
        DUE.is("43 HOURS", x.fewest(0, 43), -4);
        DUE.is("48 HOURS", x.fewest(0, 48), 5);
        DUE.is("a HEN within one", x.fewest(1, 1), 1);
        DUE.is("a DOOR within one", x.fewest(2, 1), -4);
        DUE.is("a DOOR within two", x.fewest(2, 2), 2);
    }

    private static void fewestHoursRange() {
        DUE.sentence("within h HOURS (1 .. 48). -1");
        BellThatIsADoor x = Due.marshOf("b2000;");
        DUE.is("fewest(0, 1)", x.fewest(0, 1), 1);
        DUE.is("fewest(0, 48)", x.fewest(0, 48), 1);
        int[][] out = {{0, 0}, {0, 49}, {0, -1}, {0, Integer.MAX_VALUE}, {3, 1}, {-1, 48}, {6, 1}, {3, 49}};
        for (int[] o : out) {
            Told.unchanged(DUE, "fewest(" + o[0] + ", " + o[1] + ")", Samples::some, y -> y.fewest(o[0], o[1]), -1);
        }
        DUE.is("of none", new BellThatIsADoor().fewest(0, 1), -1);
    }

    private static void fewestNever() {
        DUE.sentence("FEWEST; -4");
        DUE.is("SUITED", Due.marshOf("b5000;").fewest(0, 48), -4);
        DUE.is("not yet HOME", Due.marshOf("b0900;").fewest(0, 1), -4);
        DUE.is("HOME within two", Due.marshOf("b0900;").fewest(0, 2), 1);
    }

    private static void fewestByRung() {
        DUE.sentence("FEWEST rings (RUNG as it is now)");
        BellThatIsADoor x = Due.marshOf("b7900;r0;r0;r0;r0;r0;r0;r0;r0;r0;");
        DUE.is("a MARBLE that was rung nine times", x.fewest(0, 1), 1);
        BellThatIsADoor y = Due.marshOf("b7900;r0;r0;r0;r0;r0;r0;r0;r0;");
        DUE.is("eight times: at 8 and 12", y.fewest(0, 4), -4);
        DUE.is("within five", y.fewest(0, 5), 2);
    }

    private static void neverBits() {
        DUE.sentence("NEVER: BELLS (bits) whose SOONEST is -4");
        DUE.is("of none", new BellThatIsADoor().never(), 0);
        DUE.is("none of them", Due.marshOf("b2000;b0900;b6900;b7900;").never(), 0);
        DUE.is("all of six", Due.marshOf("b5000;b5100;b5200;b5300;b5400;b5900;").never(), 63);
        DUE.is("the first and the last", Due.marshOf("b5000;b2000;b5900;").never(), Due.bits(0, 2));
    }

    private static void firstOfAll() {
        DUE.sentence("FIRST: of all the one whose SOONEST is least, of several the least");
        DUE.is("two HENS", Due.marshOf("b2000;b2000;").first(), 0);
        DUE.is("the last", Due.marshOf("b5000;b0900;b1000;b4000;b6900;b2000;").first(), 5);
        DUE.is("1 and 1", Due.marshOf("b5000;b0900;b1000;").first(), 1);
        DUE.is("1 and 1, the other way round", Due.marshOf("b5000;b1000;b0900;").first(), 1);
        DUE.is("one who takes 43 HOURS", Due.marshOf("b5000;b6900;h17;").first(), 1);
    }

    private static void firstOfNone() {
        DUE.sentence("FIRST; -4");
        DUE.is("of none", new BellThatIsADoor().first(), -4);
        DUE.is("of SUITED", Due.marshOf("b5000;b5000;b5000;b5000;b5000;b5000;").first(), -4);
    }

    private static void inMindNothingChanges() {
        DUE.sentence("In mind");
        Told.unchanged(DUE, "home", Samples::some, x -> x.home(10), Due.bits(1, 2));
        Told.unchanged(DUE, "hoursOf", Samples::some, x -> x.hoursOf(1), (1 << 24) - 1);
        Told.unchanged(DUE, "behind", Samples::some, x -> x.behind(1, 60, 0), 60);
        Told.unchanged(DUE, "behind", Samples::some, x -> x.behind(1, 60, 1), 100);
        Told.unchanged(DUE, "soonest", Samples::some, x -> x.soonest(1), 0);
        Told.unchanged(DUE, "fewest", Samples::some, x -> x.fewest(1, 48), 1);
        Told.unchanged(DUE, "never", Samples::full, x -> x.never(), Due.bits(4));
        Told.unchanged(DUE, "first", Samples::full, x -> x.first(), 0);
    }
}
