/** Promises 8 to 14: home, hoursOf, behind, soonest, fewest, never, first. */
public final class WhoIsAtHomeTest {
    private static final Due DUE = new Due("WhoIsAtHomeTest");
    private static final int ALL_HOURS = 0xffffff;
    private static final int EVEN = 0x555555;

    public static void main(String[] args) {
        hoursOfTheKinds();
        homeAtAnHour();
        behindSomeRings();
        soonestOpening();
        fewestRings();
        neverAndFirst();
        DUE.end();
    }

    /** The HOURS from one to the other. */
    private static int hours(int from, int to) {
        int bits = 0;
        for (int h = from; h <= to; h++) {
            bits |= 1 << h;
        }
        return bits;
    }

    private static void hoursOfTheKinds() {
        for (int f = 0; f <= 9; f++) {
            int bell = hours(f, f + 11);
            int door = bell & ~(1 << 12 | 1 << 13);
            int echo = 0;
            for (int h = 0; h < 24; h += f + 1) {
                echo |= 1 << h;
            }
            int[] due = {bell, door, ALL_HOURS, ALL_HOURS & ~door, door & EVEN, 0, echo, ALL_HOURS & ~door | 1};
            for (int k = 0; k < 8; k++) {
                DUE.is("hoursOf KIND " + k + ", FIGURE " + f, Due.marshOf("b" + k + f + "00;").hoursOf(0), due[k]);
            }
        }
        DUE.is("a MARBLE with FIGURE 0 is HOME at 0", Due.marshOf("b7000;").hoursOf(0) & 1, 1);
        DUE.is("a COUGH with FIGURE 0 is not", Due.marshOf("b3000;").hoursOf(0) & 1, 0);
        BellThatIsADoor x = Due.marshOf("b0000;");
        DUE.is("hoursOf(-1)", x.hoursOf(-1), -1);
        DUE.is("hoursOf(1)", x.hoursOf(1), -1);
    }

    private static void homeAtAnHour() {
        BellThatIsADoor x = Due.marshOf("b0500;b1500;b2500;b3500;b4500;b6500;");
        DUE.is("home(5)", x.home(5), Due.bits(0, 1, 2));
        DUE.is("home(6)", x.home(6), Due.bits(0, 1, 2, 4, 5));
        DUE.is("home(12)", x.home(12), Due.bits(0, 2, 3, 5));
        DUE.is("home(13)", x.home(13), Due.bits(0, 2, 3));
        DUE.is("home(16)", x.home(16), Due.bits(0, 1, 2, 4));
        DUE.is("home(17)", x.home(17), Due.bits(2, 3));
        DUE.is("home(0)", x.home(0), Due.bits(2, 3, 5));
        DUE.is("home(23)", x.home(23), Due.bits(2, 3));
        DUE.is("home(24)", x.home(24), -1);
        DUE.is("home(-1)", x.home(-1), -1);
        DUE.is("nobody at all", new BellThatIsADoor().home(0), 0);
    }

    private static void behindSomeRings() {
        BellThatIsADoor x = Due.marshOf("b1600;b2000;h01;");
        // A DOOR with FIGURE 6 and 9 STEPS: HOME 6 to 11, 14 to 17; HOUR is 9.
        int[] heard = {-4, 4, 109, 4, 0, 0, 4, 109, 4, 109, 0};
        int[] opened = {0, 0, 1, 1, 1, 1, 1, 2, 2, 3, 3};
        for (int n = 0; n < heard.length; n++) {
            DUE.is("OPENED behind " + n, x.behind(0, n, 0), opened[n]);
            DUE.is("HEARD by ring " + n, x.behind(0, n, 1), heard[n]);
        }
        DUE.is("RUNG stays", x.bell(0, 3), 0);
        DUE.is("OPENED stays", x.bell(0, 4), 0);
        DUE.is("HOUR stays", x.count(1), 9);
        x.rings(0);
        DUE.is("RUNG counts", x.behind(0, 1, 1), 109);
        BellThatIsADoor late = Due.marshOf("b6000;b0000;h14;");
        DUE.is("past midnight, an ECHO HOME always", late.behind(0, 4, 0), 4);
        DUE.is("past midnight, at 23", late.behind(1, 2, 1), 0);
        DUE.is("past midnight, at 0", late.behind(1, 3, 1), 101);
        DUE.is("at 0 to 11 two DAYS on, at 0 to 9 the third", late.behind(1, 60, 0), 34);
        DUE.is("60 rings of a HEN", x.behind(1, 60, 0), 60);
        DUE.is("the last of them", x.behind(1, 60, 1), 100);
        DUE.is("behind(0, 61, 0)", x.behind(0, 61, 0), -1);
        DUE.is("behind(0, -1, 0)", x.behind(0, -1, 0), -1);
        DUE.is("behind(0, 1, 2)", x.behind(0, 1, 2), -1);
        DUE.is("behind(0, 1, -1)", x.behind(0, 1, -1), -1);
        DUE.is("behind(2, 1, 0)", x.behind(2, 1, 0), -1);
        DUE.is("behind(-1, 0, 1)", x.behind(-1, 0, 1), -1);
    }

    private static void soonestOpening() {
        // A MAID is HOME in even HOURS, with one between: rung each HOUR she never opens, rung in some she does.
        BellThatIsADoor x = Due.marshOf("b4000;b6900;b6800;b5000;b7900;b0900;");
        DUE.is("a MAID", x.soonest(0), 2);
        DUE.is("a MAID rung each HOUR", x.behind(0, 60, 0), 0);
        DUE.is("an ECHO HOME at 0, 10, 20 wants 5: 10, 20, 0, 10, 20", x.soonest(1), 36);
        DUE.is("an ECHO HOME at 0, 9, 18 wants 5: 9, 18, 0, 9, 18", x.soonest(2), 34);
        DUE.is("SUITED", x.soonest(3), -4);
        DUE.is("a MARBLE HOME 0 to 8, 12, 13, 21 to 23 wants 10", x.soonest(4), 19);
        DUE.is("a BELL in an HOUR", x.soonest(5), 1);
        x.rings(0);
        DUE.is("RUNG counts", x.soonest(0), 0);
        DUE.is("no more", x.bell(0, 3), 1);
        DUE.is("soonest(6)", x.soonest(6), -1);
        DUE.is("soonest(-1)", x.soonest(-1), -1);
        BellThatIsADoor late = Due.marshOf("b6900;h13;");
        DUE.is("an ECHO from 21 on: 0, 10, 20, 0, 10", late.soonest(0), 37);
        BellThatIsADoor door = Due.marshOf("b1000;h03;");
        DUE.is("a DOOR at 11 is HOME at 11 and at 0", door.soonest(0), 13);
    }

    private static void fewestRings() {
        BellThatIsADoor x = Due.marshOf("b3900;b6900;b5000;b2000;");
        DUE.is("a COUGH HOME at 8, 12, 13, 21, 22", x.fewest(0, 48), 5);
        DUE.is("within 15 HOURS", x.fewest(0, 15), 5);
        DUE.is("within 14 HOURS", x.fewest(0, 14), -4);
        x.rings(0);
        x.rings(0);
        DUE.is("two less", x.fewest(0, 13), 3);
        DUE.is("8, 12 and 13", x.fewest(0, 6), 3);
        DUE.is("8 and 12", x.fewest(0, 5), -4);
        DUE.is("an ECHO within 37", x.fewest(1, 37), 5);
        DUE.is("an ECHO within 36", x.fewest(1, 36), -4);
        DUE.is("SUITED", x.fewest(2, 48), -4);
        DUE.is("a HEN", x.fewest(3, 1), 1);
        DUE.is("fewest(0, 0)", x.fewest(0, 0), -1);
        DUE.is("fewest(0, 49)", x.fewest(0, 49), -1);
        DUE.is("fewest(4, 1)", x.fewest(4, 1), -1);
        DUE.is("fewest(-1, 1)", x.fewest(-1, 1), -1);
    }

    private static void neverAndFirst() {
        BellThatIsADoor none = new BellThatIsADoor();
        DUE.is("never of none", none.never(), 0);
        DUE.is("first of none", none.first(), -4);
        DUE.is("first of SUITED", Due.marshOf("b5000;b5900;").first(), -4);
        BellThatIsADoor x = Due.marshOf("b5000;b1000;b5100;b0900;b0900;b6900;");
        DUE.is("never", x.never(), Due.bits(0, 2));
        DUE.is("of several the least", x.first(), 1);
        x.hours(1);
        DUE.is("the one HOME now", x.first(), 3);
        DUE.is("the first to come", Due.marshOf("b2000;b2000;").first(), 0);
        BellThatIsADoor hens = Due.marshOf("b5000;b0900;b2000;b2000;");
        DUE.is("a HEN", hens.first(), 2);
    }
}
