/** Promises 27 to 29: forged, judge, days. */
public final class ListsAndDaysTest {
    private static final Due DUE = new Due("ListsAndDaysTest");

    public static void main(String[] args) {
        forgedLists();
        judgedLists();
        refusedLists();
        daysBySeeds();
        DUE.end();
    }

    private static void forgedLists() {
        // HEN always; BELL 9 from 9 on; MAID 0 with 1 STEP, of which the first RING of two is 0, cut; ECHO 9 has no STEPS.
        BellThatIsADoor x = Due.marshOf("b2000;b0900;b4000;b6900;");
        forged(x, "an empty one", -4);
        forged(x, "all open", -4, 0, 1, 1, 0);
        forged(x, "nobody is HOME at 8", 0, 1, 0);
        forged(x, "a MAID's first RING is 0", 0, 2);
        forged(x, "a MAID is not HOME at 9", 1, 0, 2);
        forged(x, "an ECHO at 10 goes 0 STEPS", 2, 0, 0, 3);
        forged(x, "BELL 4 is none", 1, 0, 4, 0);
        forged(x, "BELL -1 is none", 2, 0, 0, -1);
        DUE.is("nothing is RUNG", x.count(3), 0);
        DUE.is("nothing is OPENED", x.count(4), 0);
        DUE.is("HOUR stays", x.count(1), 8);
        x.rings(2);
        forged(x, "a MAID who was rung", 2, 2, 0, 2);
        for (int sort = 0; sort < 3; sort++) {
            Due.list(x, 1, sort, 0, new int[] {-128, -32768, Integer.MIN_VALUE}[sort], 0);
            DUE.is("the least number is no BELL, SORT " + sort, x.forged(1), 1);
        }
        BellThatIsADoor door = Due.marshOf("b1000;b2000;");
        forged(door, "8, 9, 10 and 11, none at 12", 4, 0, 0, 0, 0, 0);
        forged(door, "RUNG stays beside other rings", -4, 0, 1, 0, 1);
        forged(new BellThatIsADoor(), "no BELLS", 0, 0);
    }

    private static void forged(BellThatIsADoor x, String what, int due, int... bells) {
        Due.list(x, 1, 0, bells);
        DUE.is("forged: " + what, x.forged(1), due);
    }

    private static void judgedLists() {
        // Behind 23 HOUR is 0: BELL 0 is HOME 0 to 11, BELL 9 at 9 to 20, a HEN always.
        BellThatIsADoor x = Due.marshOf("b0000;b0900;b2000;h14;");
        judged(x, "from 22 on", -4, 1, 1, 2, 2);
        judged(x, "one too many at 23", 1, 1, 2, 2, 2);
        judged(x, "one too few at 0", 2, 1, 1, 1, 2);
        judged(x, "the first at once", 0, 0, 0);
        judged(x, "an empty one", -4);
        BellThatIsADoor early = Due.marshOf("b0900;b2000;");
        judged(early, "one comes HOME at 9", -4, 1, 2, 2);
        judged(early, "not at 10", 1, 1, 1, 2);
        for (int sort = 0; sort < 3; sort++) {
            int least = new int[] {-128, -32768, Integer.MIN_VALUE}[sort];
            Due.list(x, 1, sort, least, 1, least, 2);
            DUE.is("the least number is skipped, SORT " + sort, x.judge(1), -4);
            Due.list(x, 1, sort, least, 1, least, 1);
            DUE.is("its HOUR goes by, SORT " + sort, x.judge(1), 3);
            Due.list(x, 1, sort, least + 1, 1);
            DUE.is("one more is not skipped, SORT " + sort, x.judge(1), 0);
        }
        BellThatIsADoor none = new BellThatIsADoor();
        x.row(1, 0, 100);
        none.row(1, 0, 100);
        DUE.is("100 times nobody", none.judge(1), -4);
        none.put(1, 99, 1);
        DUE.is("one at last", none.judge(1), 99);
        DUE.is("HOUR stays", x.count(1), 22);
    }

    private static void judged(BellThatIsADoor x, String what, int due, int... many) {
        Due.list(x, 1, 1, many);
        DUE.is("judge: " + what, x.judge(1), due);
    }

    private static void refusedLists() {
        BellThatIsADoor x = Due.marshOf("b2000;");
        x.keep(2, 1, 0, 0);
        DUE.is("forged(-1)", x.forged(-1), -1);
        DUE.is("forged(8)", x.forged(8), -1);
        DUE.is("forged of nothing", x.forged(3), -11);
        DUE.is("forged of a KIND", x.forged(2), -12);
        DUE.is("judge(-1)", x.judge(-1), -1);
        DUE.is("judge(8)", x.judge(8), -1);
        DUE.is("judge of nothing", x.judge(3), -11);
        DUE.is("judge of a KIND", x.judge(2), -12);
    }

    private static void daysBySeeds() {
        BellThatIsADoor hen = Due.marshOf("b2000;");
        DUE.is("a HEN opens each time", hen.days(20, 5, 0), 240);
        DUE.is("and no STEPS are HEARD", hen.days(20, 5, 1), 0);
        BellThatIsADoor bell = Due.marshOf("b0300;");
        // From 8 to 14 is seven HOURS of the twelve, each DAY.
        DUE.is("a BELL, three DAYS from now", bell.days(3, 0, 0), 21);
        DUE.is("4 STEPS each", bell.days(3, 0, 1), 84);
        BellThatIsADoor two = Due.marshOf("b5000;b0800;");
        // z 0: the DRAWS below 2 are told by z times 1103515245 and 12345, again and again.
        int z = 0;
        int opens = 0;
        for (int i = 0; i < 24; i++) {
            z = z * 1103515245 + 12345;
            opens += (z & 0x7fffffff) / 65536 % 2;
        }
        DUE.is("half of the DRAWS ring the BELL", two.days(2, 0, 0), opens);
        DUE.is("9 STEPS each", two.days(2, 0, 1), 9 * opens);
        BellThatIsADoor x = Due.marshOf("b0604;b1712;b3920;b4330;b6208;b7400;h05;");
        DUE.is("as the shared run has it", x.days(20, 9, 0), 26);
        DUE.is("a seed below 0", x.days(1, Integer.MIN_VALUE, 0), naiveDays(Integer.MIN_VALUE));
        DUE.is("a seed above 0", x.days(1, Integer.MAX_VALUE, 0), naiveDays(Integer.MAX_VALUE));
        DUE.is("nothing is RUNG", x.count(3), 0);
        DUE.is("HOUR stays", x.count(1), 13);
        DUE.is("DAY stays", x.count(2), 0);
        refusedDays(x);
    }

    private static long naiveDays(int z) {
        Naive naive = new Naive();
        int[][] bells = {{0, 6}, {1, 7}, {3, 9}, {4, 3}, {6, 2}, {7, 4}};
        for (int[] one : bells) {
            naive.keep(0, 1, one[0], one[1]);
            naive.comes(0, 0);
        }
        naive.hours(5);
        return naive.days(1, z, 0);
    }

    private static void refusedDays(BellThatIsADoor x) {
        DUE.is("days(0, 1, 0)", x.days(0, 1, 0), -1);
        DUE.is("days(21, 1, 0)", x.days(21, 1, 0), -1);
        DUE.is("days(1, 1, 2)", x.days(1, 1, 2), -1);
        DUE.is("days(1, 1, -1)", x.days(1, 1, -1), -1);
        BellThatIsADoor none = new BellThatIsADoor();
        DUE.is("there are none", none.days(1, 1, 1), -3);
        DUE.is("a wrong number is told ahead of it", none.days(21, 1, 1), -1);
    }
}
