/** Promises 15 to 18: errands, forAll, busiest, alone. */
public final class ErrandsAndHoursTest {
    private static final Due DUE = new Due("ErrandsAndHoursTest");

    public static void main(String[] args) {
        wayHours();
        waits();
        orders();
        longErrands();
        refusedErrands();
        hoursForAll();
        busiestHour();
        aloneAtHome();
        DUE.end();
    }

    private static void wayHours() {
        int[] places = {0, 1, 9, 10, 11, 20, 21, 30};
        int[] hours = {1, 2, 2, 2, 3, 3, 4, 4};
        for (int i = 0; i < places.length; i++) {
            BellThatIsADoor x = Due.marshOf(String.format("b20%02d;", places[i]));
            DUE.is("HOURS to PLACE " + places[i], x.errands(0, 1, -1), hours[i]);
            DUE.is("HOURS from it", Due.marshOf("b2000;").errands(places[i], 1, -1), hours[i]);
        }
    }

    private static void waits() {
        BellThatIsADoor x = Due.marshOf("b0900;b4000;b6100;b1000;");
        DUE.is("a BELL HOME from 9 on", x.errands(0, 1, -1), 2);
        DUE.is("a MAID rung each HOUR", x.errands(0, 2, -1), -4);
        DUE.is("no BELL of it", x.errands(0, 2, 0), -4);
        x.rings(1);
        DUE.is("a MAID who was rung", x.errands(0, 2, -1), 1);
        DUE.is("not if he comes an HOUR later", x.errands(1, 2, -1), -4);
        DUE.is("RUNG stays", x.bell(1, 3), 1);
        DUE.is("an ECHO", x.errands(0, 4, -1), 1);
        DUE.is("a DOOR at 8 and 9", x.errands(0, 8, -1), 2);
        DUE.is("a DOOR from 11 on: 11, 0 and 1", x.errands(30, 8, -1), 18);
        DUE.is("OPENED stays", x.count(4), 0);
        BellThatIsADoor midnight = Due.marshOf("b1000;h16;");
        DUE.is("a DOOR at 0 and 1", midnight.errands(0, 1, -1), 2);
        midnight.rings(0);
        DUE.is("and when it was rung", midnight.errands(0, 1, -1), 1);
        DUE.is("HOUR stays", x.count(1), 8);
    }

    private static void orders() {
        BellThatIsADoor hens = Due.marshOf("b2030;b2000;b2010;");
        DUE.is("by 1, 2, 0", hens.errands(0, 7, -1), 6);
        DUE.is("first", hens.errands(0, 7, 0), 1);
        DUE.is("second", hens.errands(0, 7, 1), 2);
        DUE.is("third", hens.errands(0, 7, 2), 0);
        DUE.is("fourth", hens.errands(0, 7, 3), -4);
        DUE.is("far on", hens.errands(0, 7, Integer.MAX_VALUE), -4);
        DUE.is("from the other side", hens.errands(30, 7, 0), 0);
        DUE.is("two of them", hens.errands(0, 5, 0), 2);
        DUE.is("two of them", hens.errands(0, 5, 1), 0);
        DUE.is("two of them, no third", hens.errands(0, 5, 2), -4);
        BellThatIsADoor alike = Due.marshOf("b2005;b2005;b2005;b2005;b2005;b2005;");
        DUE.is("six at one PLACE", alike.errands(5, 63, -1), 6);
        for (int i = 0; i < 6; i++) {
            DUE.is("of several orders the first", alike.errands(5, 63, i), i);
        }
        // The HEN first costs the BELL nothing, as nobody is HOME there till 9.
        BellThatIsADoor waiting = Due.marshOf("b0900;b2000;");
        DUE.is("the HEN while he waits", waiting.errands(0, 3, -1), 2);
        DUE.is("the HEN is first", waiting.errands(0, 3, 0), 1);
    }

    private static void longErrands() {
        BellThatIsADoor x = Due.marshOf("b1000;b3900;b7000;b7100;b7200;b7300;");
        Naive naive = new Naive();
        String text = "b1000;b3900;b7000;b7100;b7200;b7300;";
        naive.row(0, 0, text.length());
        for (int i = 0; i < text.length(); i++) {
            naive.put(0, i, text.charAt(i));
        }
        naive.marsh(0);
        for (int hour = 0; hour < 24; hour++) {
            for (int set = 1; set < 64; set += 7) {
                DUE.is("errands(30, " + set + ", -1)", x.errands(30, set, -1), naive.errands(30, set, -1));
                DUE.is("errands(30, " + set + ", 1)", x.errands(30, set, 1), naive.errands(30, set, 1));
            }
            x.hours(1);
            naive.hours(1);
        }
    }

    private static void refusedErrands() {
        BellThatIsADoor x = Due.marshOf("b2000;b2000;");
        DUE.is("PLACE -1", x.errands(-1, 1, -1), -1);
        DUE.is("PLACE 31", x.errands(31, 1, -1), -1);
        DUE.is("no bits", x.errands(0, 0, -1), -1);
        DUE.is("a bit too many", x.errands(0, 4, -1), -1);
        DUE.is("and one that is not", x.errands(0, 5, -1), -1);
        DUE.is("bits below 0", x.errands(0, -1, -1), -1);
        DUE.is("bits below 0", x.errands(0, Integer.MIN_VALUE + 1, -1), -1);
        DUE.is("i -2", x.errands(0, 1, -2), -1);
        DUE.is("both", x.errands(0, 3, -1), 2);
    }

    private static void hoursForAll() {
        DUE.is("none need none", new BellThatIsADoor().forAll(), 0);
        DUE.is("a HEN at 0", Due.marshOf("b2000;").forAll(), 1);
        DUE.is("a BELL at 9", Due.marshOf("b0900;").forAll(), 1 << 9);
        DUE.is("two BELLS at 9", Due.marshOf("b0900;b0000;").forAll(), 1 << 9);
        DUE.is("SUITED never", Due.marshOf("b5000;b2000;").forAll(), -4);
        DUE.is("a DOOR and a COUGH: 0 and 12", Due.marshOf("b1000;b3000;").forAll(), 1 | 1 << 12);
        // DOOR 9 at 9 .. 11, 14 .. 20; COUGH 9 at the others; MAID 0 at 0, 2, .. 10; ECHO 8 at 0, 9, 18.
        DUE.is("fewest first, then least bits", Due.marshOf("b1900;b3900;b4000;b6800;").forAll(), 1 | 1 << 9);
        // MAID 0 without an odd HOUR, ECHO 6 at 7 beside 0, 14, 21.
        DUE.is("at 0 all but the DOOR", Due.marshOf("b3900;b4000;b6600;b1900;").forAll(), 1 | 1 << 9);
        // COUGH 0 at 12 on, MAID 0 at 0, 2, .. 10: 10 and 12 are less, as bits, than 0 and 14.
        DUE.is("COUGH 0 and MAID 0 and DOOR 9", Due.marshOf("b3000;b4000;b1900;").forAll(), 1 << 10 | 1 << 12);
        threeHours();
    }

    private static void threeHours() {
        // COUGH 0 at 12 on, DOOR 1 at 1 .. 11: these two HOURS are those of two of the ECHOES at most.
        BellThatIsADoor two = Due.marshOf("b3000;b1100;b6900;b6800;");
        DUE.is("two ECHOES: 10 and 18", two.forAll(), 1 << 10 | 1 << 18);
        BellThatIsADoor three = Due.marshOf("b3000;b1100;b6900;b6800;b6600;");
        DUE.is("three ECHOES: at 0, 1 and 12", three.forAll(), 1 | 1 << 1 | 1 << 12);
    }

    private static void busiestHour() {
        BellThatIsADoor none = new BellThatIsADoor();
        DUE.is("busiest of none", none.busiest(0), 0);
        DUE.is("how many of none", none.busiest(1), 0);
        BellThatIsADoor x = Due.marshOf("b0300;b0500;b4000;");
        DUE.is("at 6", x.busiest(0), 6);
        DUE.is("three", x.busiest(1), 3);
        BellThatIsADoor hen = Due.marshOf("b2000;");
        DUE.is("a HEN is HOME at 0", hen.busiest(0), 0);
        DUE.is("one", hen.busiest(1), 1);
        BellThatIsADoor suited = Due.marshOf("b5000;");
        DUE.is("SUITED", suited.busiest(0), 0);
        DUE.is("SUITED", suited.busiest(1), 0);
        DUE.is("busiest(2)", x.busiest(2), -1);
        DUE.is("busiest(-1)", x.busiest(-1), -1);
    }

    private static void aloneAtHome() {
        DUE.is("none", new BellThatIsADoor().alone(), 0);
        BellThatIsADoor x = Due.marshOf("b0000;b0500;b4000;");
        DUE.is("0 at 1, 1 at 12 on, the MAID never without 0", x.alone(), Due.bits(0, 1));
        DUE.is("a HEN beside them", Due.marshOf("b0000;b0500;b4000;b2000;").alone(), Due.bits(3));
        DUE.is("an ECHO at 0 alone", Due.marshOf("b6900;b0900;").alone(), Due.bits(0, 1));
        DUE.is("two HENS", Due.marshOf("b2000;b2000;").alone(), 0);
    }
}
