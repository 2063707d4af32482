/** A test for each sentence that names a bound of FORGED, JUDGED, DAYS (promises 27 to 29). */
public final class BoundsOfListsTest {
    private static final Due DUE = new Due("BoundsOfListsTest");
    private static final int[] LEAST = {-128, -32768, Integer.MIN_VALUE};
    private static final String SIX = "b0604;b1712;b3920;b4330;b6208;b7400;";

    public static void main(String[] args) {
        rungOneEachHour();
        forgedGoesRound();
        rungOneBehindTheOther();
        nothingHeard();
        noSuchOne();
        forgedNone();
        longestForged();
        forgedIsRefused();
        howManyAreHome();
        judgedGoesRound();
        judgedSkips();
        judgedNone();
        longestJudged();
        judgeIsRefused();
        manyDays();
        daysOfNone();
        twelveTimes();
        eachFromNow();
        drawGoesRound();
        drawWithoutSign();
        drawModuloMany();
        openedOfDays();
        heardOfDays();
        daysAreRefused();
        nothingChanges();
        DUE.end();
    }

    private static void forged(String what, BellThatIsADoor x, int due, int... bells) {
        for (int sort = 0; sort < 3; sort++) {
            Due.list(x, 1, sort, bells);
            DUE.is("forged, " + what + ", SORT " + sort, x.forged(1), due);
        }
    }

    private static void rungOneEachHour() {
        DUE.sentence("FORGED: a ROW of BELLS: they are rung .. one each HOUR from now");
        BellThatIsADoor x = Due.marshOf("b0900;b0000;h02;");
        forged("10 and 11", x, -4, 1, 1);
        forged("none at 12", x, 2, 1, 1, 1);
        forged("the other from 10 to 20", x, 11, 0, 0, 0, 0, 0, 0, 0, 0, 0, 0, 0, 0);
        BellThatIsADoor eight = Due.marshOf("b0900;b2000;");
        forged("none at 8", eight, 0, 0, 0);
        forged("one at 9", eight, -4, 1, 0);
    }

    private static void forgedGoesRound() {
        DUE.sentence("one each HOUR from now (behind 23: 0)");
        BellThatIsADoor x = Due.marshOf("b0000;b3000;h14;");
        forged("22, 23, 0 and 1", x, -4, 1, 1, 0, 0);
        forged("a BELL at 23", x, 1, 1, 0);
        forged("a COUGH at 0", x, 2, 1, 1, 1);
        BellThatIsADoor last = Samples.last();
        forged("from HOUR 23 of DAY 999: a MARBLE at 0", last, -4, 0, 1);
        forged("not at 1", last, 2, 0, 0, 1);
    }

    private static void rungOneBehindTheOther() {
        DUE.sentence("they are rung one behind the other [each RING on what those ahead of it made]");
        // STEPS 1 by 2, cut, is 0 for the first RING of a MAID, the second opens.
        BellThatIsADoor maid = Due.marshOf("b4000;b2000;");
        forged("the first RING", maid, 0, 0);
        maid.rings(0);
        forged("the second", maid, -4, 0);
        forged("behind an HOUR it is still RUNG, but not HOME", maid, 1, 1, 0);
        forged("behind two it opens", maid, -4, 1, 1, 0);
        BellThatIsADoor echo = Due.marshOf("b6800;b2000;h01;r0;r0;r0;r0;");
        forged("an ECHO's fifth at 9", echo, -4, 0);
        forged("nobody HOME at 10", echo, 1, 0, 0);
    }

    private static void nothingHeard() {
        DUE.sentence("the first by which nothing is HEARD");
        forged("the first of two", Due.marshOf("b5000;b2000;"), 1, 1, 0, 0);
        forged("the last", Due.marshOf("b5000;b2000;"), 3, 1, 1, 1, 0);
        forged("a HEN opens: 100 is not nothing", Due.marshOf("b2000;"), -4, 0);
        forged("an ECHO of no STEPS: 0", Due.marshOf("b6900;b2000;h02;"), 0, 0);
        forged("a DOOR of 3 STEPS by 2: 1", Due.marshOf("b1000;"), -4, 0);
    }

    private static void noSuchOne() {
        DUE.sentence("(no such one, too)");
        BellThatIsADoor x = Due.marshOf("b2000;b2000;");
        forged("0 and 1", x, -4, 0, 1);
        forged("BELL 2", x, 1, 1, 2);
        forged("BELL -1", x, 1, 1, -1);
        forged("BELL 6", x, 0, 6);
        forged("BELL 127", x, 0, 127, 0);
        for (int sort = 0; sort < 3; sort++) {
            Due.list(x, 1, sort, 0, LEAST[sort], 1);
            DUE.is("the least number is no BELL, SORT " + sort, x.forged(1), 1);
        }
        Due.list(x, 1, 0, 256, 257);
        DUE.is("bytes keep their lowest bits", x.forged(1), -4);
        Due.list(x, 1, 1, 65536, 257);
        DUE.is("shorts keep their lowest bits", x.forged(1), 1);
        forged("no BELLS", new BellThatIsADoor(), 0, 0);
    }

    private static void forgedNone() {
        DUE.sentence("FORGED; -4");
        forged("a ROW of none", Due.marshOf("b5000;"), -4);
        forged("a ROW of none, no BELLS", new BellThatIsADoor(), -4);
    }

    private static void longestForged() {
        DUE.sentence("a ROW has 0 .. 100 elements [all of FORGED's are rung]");
        BellThatIsADoor x = Due.marshOf("b2000;b5000;");
        x.row(1, 0, 100);
        DUE.is("100 HENS", x.forged(1), -4);
        x.put(1, 99, 1);
        DUE.is("the last one", x.forged(1), 99);
        x.put(1, 48, 1);
        DUE.is("the 49-th", x.forged(1), 48);
    }

    private static void forgedIsRefused() {
        DUE.sentence("forged: -1, -11, -12 (no ROW)");
        refused("forged", true);
    }

    private static void judgeIsRefused() {
        DUE.sentence("judge: -1, -11, -12");
        refused("judge", false);
    }

    private static void refused(String name, boolean isForged) {
        int[][] out = {{-1, -1}, {8, -1}, {Integer.MIN_VALUE, -1}, {Integer.MAX_VALUE, -1}, {Samples.NOTHING, -11},
            {Samples.HEN, -12}, {Samples.MARBLE, -12}};
        for (int[] o : out) {
            Told.unchanged(DUE, name + "(" + o[0] + ")", Samples::some,
                x -> isForged ? x.forged(o[0]) : x.judge(o[0]), o[1]);
            Told.unchanged(DUE, name + "(" + o[0] + ")", Samples::none,
                x -> isForged ? x.forged(o[0]) : x.judge(o[0]), o[1]);
        }
    }

    private static void judged(String what, BellThatIsADoor x, int due, int... many) {
        for (int sort = 0; sort < 3; sort++) {
            Due.list(x, 1, sort, many);
            DUE.is("judge, " + what + ", SORT " + sort, x.judge(1), due);
        }
    }

    private static void howManyAreHome() {
        DUE.sentence("JUDGED: a ROW tells how many are HOME at HOUR, an HOUR on, ..: the first that is not so");
        BellThatIsADoor x = Due.marshOf("b0900;b0000;h01;");
        judged("9, 10, 11, 12", x, -4, 2, 2, 2, 1);
        judged("HOUR itself", x, 0, 1, 2, 2, 1);
        judged("an HOUR on", x, 1, 2, 1, 2, 2);
        judged("the last", x, 3, 2, 2, 2, 2);
        judged("more than there are", x, 0, 3);
        judged("below 0", x, 0, -1);
        judged("six", Due.marshOf("b2000;b2000;b2000;b2000;b2000;b2000;"), 2, 6, 6, 7);
        judged("no BELLS", new BellThatIsADoor(), 2, 0, 0, 1);
    }

    private static void judgedGoesRound() {
        DUE.sentence("at HOUR, an HOUR on, .. (behind 23: 0)");
        BellThatIsADoor x = Due.marshOf("b0000;h14;");
        judged("22, 23, 0", x, -4, 0, 0, 1);
        judged("22, 23, 0", x, 2, 0, 0, 0);
        x.hours(1);
        judged("23, 0", x, 0, 1, 0);
    }

    private static void judgedSkips() {
        DUE.sentence("(skipped likewise: the least number of the SORT)");
        BellThatIsADoor x = Due.marshOf("b0900;");
        for (int sort = 0; sort < 3; sort++) {
            Due.list(x, 1, sort, LEAST[sort], 1);
            DUE.is("its HOUR goes by, SORT " + sort, x.judge(1), -4);
            Due.list(x, 1, sort, LEAST[sort], 0);
            DUE.is("its HOUR goes by, SORT " + sort, x.judge(1), 1);
            Due.list(x, 1, sort, LEAST[sort], LEAST[sort]);
            DUE.is("none but skipped ones, SORT " + sort, x.judge(1), -4);
            Due.list(x, 1, sort, 0, LEAST[sort] + 1);
            DUE.is("one more, SORT " + sort, x.judge(1), 1);
            Due.list(x, 1, sort, 0, LEAST[sort] - 1);
            DUE.is("one less goes round, SORT " + sort, x.judge(1), 1);
        }
        Due.list(x, 1, 1, -128);
        DUE.is("a byte's least among shorts", x.judge(1), 0);
        Due.list(x, 1, 2, -32768);
        DUE.is("a short's least among ints", x.judge(1), 0);
        Due.list(x, 1, 0, 128);
        DUE.is("128 is a byte's least", x.judge(1), -4);
    }

    private static void judgedNone() {
        DUE.sentence("JUDGED; -4");
        judged("a ROW of none", Due.marshOf("b2000;"), -4);
        judged("a ROW of none, no BELLS", new BellThatIsADoor(), -4);
    }

    private static void longestJudged() {
        DUE.sentence("a ROW has 0 .. 100 elements [all of JUDGED's are looked at]");
        BellThatIsADoor x = Due.marshOf("b5000;");
        x.row(1, 2, 100);
        DUE.is("100 times nobody", x.judge(1), -4);
        x.put(1, 99, 1);
        DUE.is("the last one", x.judge(1), 99);
        x.put(1, 48, 1);
        DUE.is("the 49-th", x.judge(1), 48);
    }

    private static void manyDays() {
        DUE.sentence("DAYS with a seed z: n (1 .. 20)");
        BellThatIsADoor x = Due.marshOf("b2000;");
        DUE.is("days(0, 1, 0)", x.days(0, 1, 0), -1);
        DUE.is("days(1, 1, 0)", x.days(1, 1, 0), 12);
        DUE.is("days(20, 1, 0)", x.days(20, 1, 0), 240);
        DUE.is("days(21, 1, 0)", x.days(21, 1, 0), -1);
    }

    private static void daysOfNone() {
        DUE.sentence("days: -1, -3 there are none");
        BellThatIsADoor x = new BellThatIsADoor();
        DUE.is("days(1, 1, 0)", x.days(1, 1, 0), -3);
        DUE.is("days(20, 0, 1)", x.days(20, 0, 1), -3);
        DUE.is("days(0, 1, 0)", x.days(0, 1, 0), -1);
        DUE.is("days(21, 1, 1)", x.days(21, 1, 1), -1);
        DUE.is("days(1, 1, 2)", x.days(1, 1, 2), -1);
        Told.unchanged(DUE, "there are none", Samples::none, y -> y.days(1, 1, 0), -3);
    }

    private static void twelveTimes() {
        DUE.sentence("12 times a BELL .. is rung, then an HOUR goes by");
        // From HOUR on twelve HOURS: 8 .. 19, of which a BELL of FIGURE 0 is HOME at 8 .. 11, one of 9 at 9 .. 19.
        DUE.is("FIGURE 0", Due.marshOf("b0000;").days(1, 0, 0), 4);
        DUE.is("FIGURE 9", Due.marshOf("b0900;").days(1, 0, 0), 11);
        DUE.is("FIGURE 8", Due.marshOf("b0800;").days(1, 0, 0), 12);
        DUE.is("FIGURE 0 from 12 on: 12 .. 23", Due.marshOf("b0000;h04;").days(1, 0, 0), 0);
        DUE.is("FIGURE 0 from 13 on: 13 .. 0", Due.marshOf("b0000;h05;").days(1, 0, 0), 1);
        DUE.is("FIGURE 0 from 23 on: 23, 0 .. 10", Due.marshOf("b0000;h15;").days(1, 0, 0), 11);
    }

    private static void eachFromNow() {
        DUE.sentence("n (1 .. 20), each from now");
        BellThatIsADoor x = Due.marshOf("b7900;h04;r0;r0;r0;r0;r0;r0;r0;r0;r0;");
        // RUNG 9 and HOUR 12: each DAY it opens at 12; HOME at 13 and 21, 22, 23 it is not RUNG ten times more.
        DUE.is("one DAY", x.days(1, 0, 0), 1);
        DUE.is("20 DAYS", x.days(20, 0, 0), 20);
        DUE.is("what is HEARD of one", x.days(1, 0, 1), 25 + 2 + 2 + 5 + 7);
        DUE.is("of 20", x.days(20, 0, 1), 20 * (25 + 2 + 2 + 5 + 7));
        BellThatIsADoor last = Samples.last();
        DUE.is("from HOUR 23 of DAY 999", last.days(20, 3, 0) >= 0 ? 1 : 0, 1);
        DUE.is("DAY", last.count(2), 999);
    }

    /** What DAYS of two BELLS would open, one of them SUITED and the other a HEN: as many as the DRAWS of 1. */
    private static int ones(int n, long z, long times, long plus) {
        long seed = z;
        int ones = 0;
        for (int i = 0; i < 12 * n; i++) {
            seed = seed * times + plus & 0xffffffffL;
            ones += (seed & 0x7fffffffL) / 65536 % 2;
        }
        return ones;
    }

    private static void drawGoesRound() {
        DUE.sentence("z becomes z times 1103515245 plus 12345 (an int)");
        BellThatIsADoor x = Due.marshOf("b5000;b2000;");
        int[] seeds = {0, 1, -1, 12345, 65536, 2147, 1 << 30, Integer.MAX_VALUE, Integer.MIN_VALUE, -65536, 99991};
        for (int z : seeds) {
            for (int n = 1; n <= 20; n++) {
                DUE.is("days(" + n + ", " + z + ", 0)", x.days(n, z, 0), ones(n, z, 1103515245L, 12345L));
            }
        }
    }

    private static void drawWithoutSign() {
        DUE.sentence("(z without its sign's bit over 65536, cut)");
        // Of two seeds that are unlike in their highest bit alone each DRAW is the same.
        BellThatIsADoor x = Due.marshOf(SIX + "h05;");
        int[] seeds = {0, 7, 12345, 99999, Integer.MAX_VALUE};
        for (int z : seeds) {
            for (int what = 0; what < 2; what++) {
                DUE.is("days(20, " + z + ", " + what + ")", x.days(20, z ^ Integer.MIN_VALUE, what), x.days(20, z, what));
            }
        }
        DUE.is("as the shared run has it", x.days(20, 9, 0), 26);
    }

    private static void drawModuloMany() {
        DUE.sentence("a DRAW below as many as there are .. modulo n");
        StringBuilder suited = new StringBuilder();
        for (int many = 1; many <= 6; many++) {
            BellThatIsADoor x = Due.marshOf(suited + "b2000;");
            int seed = 5;
            int last = 0;
            for (int i = 0; i < 240; i++) {
                seed = seed * 1103515245 + 12345;
                last += (seed >>> 16 & 0x7fff) % many == many - 1 ? 1 : 0;
            }
            DUE.is("the last of " + many, x.days(20, 5, 0), last);
            suited.append("b5000;");
        }
    }

    private static void openedOfDays() {
        DUE.sentence("OPENED more together (also beyond 99)");
        BellThatIsADoor x = Due.marshOf("b2000;b2000;");
        for (int i = 0; i < 100; i++) {
            x.rings(0);
        }
        DUE.is("OPENED", x.bell(0, 4), 99);
        DUE.is("all the same", x.days(20, 77, 0), 240);
        DUE.is("OPENED", x.bell(0, 4), 99);
        DUE.is("of none HOME", Due.marshOf("b5000;").days(20, 77, 0), 0);
    }

    private static void heardOfDays() {
        DUE.sentence("all HEARD (what opened less 100)");
        DUE.is("a BELL of 9 STEPS, twelve times", Due.marshOf("b0800;").days(1, 0, 1), 108);
        DUE.is("20 DAYS of it", Due.marshOf("b0800;").days(20, 0, 1), 2160);
        DUE.is("a HEN", Due.marshOf("b2000;").days(20, 0, 1), 0);
        // From 8 on: 5 and 111, 5 and 111, none at 12 and 13, then three times 5 and 11.
        DUE.is("a DOOR of 11 STEPS", Due.marshOf("b1800;").days(1, 0, 1), 2 * 16 + 3 * 16);
        DUE.is("none HOME", Due.marshOf("b5000;").days(20, 0, 1), 0);
    }

    private static void daysAreRefused() {
        DUE.sentence("days: -1");
        int[][] out = {{0, 0}, {21, 0}, {-1, 1}, {Integer.MIN_VALUE, 0}, {Integer.MAX_VALUE, 1}, {1, 2}, {1, -1},
            {20, Integer.MIN_VALUE}, {20, Integer.MAX_VALUE}};
        for (int[] o : out) {
            Told.unchanged(DUE, "days(" + o[0] + ", 1, " + o[1] + ")", Samples::some, x -> x.days(o[0], 1, o[1]), -1);
            Told.unchanged(DUE, "days(" + o[0] + ", 1, " + o[1] + ")", Samples::none, x -> x.days(o[0], 1, o[1]), -1);
        }
    }

    private static void nothingChanges() {
        DUE.sentence("[FORGED, JUDGED, DAYS are asked for:] nothing changes");
        Told.unchanged(DUE, "forged", Samples::some, x -> x.forged(Samples.LIST), 1);
        Told.unchanged(DUE, "judge", Samples::some, x -> x.judge(Samples.LIST), 0);
        Told.unchanged(DUE, "days", Samples::some, x -> x.days(20, 1, 0) >= 0 ? 1 : 0, 1);
        Told.unchanged(DUE, "days", Samples::full, x -> x.days(20, 1, 1) >= 0 ? 1 : 0, 1);
    }
}
