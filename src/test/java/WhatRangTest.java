/** Promises 19 to 21: whatRang, tell, oneDoor. */
public final class WhatRangTest {
    private static final Due DUE = new Due("WhatRangTest");
    private static final int ANY_BYTE = -128;
    private static final int ANY_SHORT = -32768;
    private static final int ANY_INT = Integer.MIN_VALUE;

    public static void main(String[] args) {
        kindsThatRang();
        figuresThatRang();
        theLeastNumberIsSkipped();
        rungAsNow();
        refusedRows();
        theRingThatTellsMost();
        bellsOfOneDoor();
        DUE.end();
    }

    private static void kindsThatRang() {
        BellThatIsADoor x = Due.marshOf("b0300;");
        // At 8 with FIGURE 3: BELL 104; DOOR 3 of 6; HEN 100; COUGH not; MAID 1 of 3; SUITED not; ECHO 3 of 6; MARBLE not.
        int[] heard = {104, 3, 100, 0, 1};
        int[] kinds = {Due.bits(0), Due.bits(1, 6), Due.bits(2), Due.bits(3, 5, 7), Due.bits(4)};
        for (int i = 0; i < heard.length; i++) {
            Due.list(x, 1, 0, heard[i]);
            DUE.is("by " + heard[i], x.whatRang(1, 0, 0), kinds[i]);
        }
        Due.list(x, 1, 1, 3, 106);
        DUE.is("a DOOR alone opens at 9", x.whatRang(1, 0, 0), Due.bits(1));
        Due.list(x, 1, 1, 3, 0);
        DUE.is("nobody is HOME at an ECHO at 9", x.whatRang(1, 0, 0), Due.bits(6));
        Due.list(x, 1, 2);
        DUE.is("by nothing all could be", x.whatRang(1, 0, 0), 255);
        Due.list(x, 1, 2, 99);
        DUE.is("by this none", x.whatRang(1, 0, 0), 0);
        DUE.is("RUNG stays", x.bell(0, 3), 0);
        DUE.is("HOUR stays", x.count(1), 8);
    }

    private static void figuresThatRang() {
        BellThatIsADoor x = Due.marshOf("b0300;b6900;b1000;h16;");
        Due.list(x, 1, 0, 101);
        DUE.is("a BELL HOME at 0 has FIGURE 0", x.whatRang(1, 0, 1), Due.bits(0));
        Due.list(x, 1, 0, 0, 0, 0, 0, 0);
        DUE.is("one not HOME till 4 has 5 or more", x.whatRang(1, 0, 1), Due.bits(5, 6, 7, 8, 9));
        Due.list(x, 1, 0, 4);
        DUE.is("an ECHO: 8 by 2, 6 by 2 twice, 5 by 3 not", x.whatRang(1, 1, 1), Due.bits());
        Due.list(x, 1, 0, 3);
        DUE.is("an ECHO with FIGURE 2 or 3: 7 by 2, 6 by 2", x.whatRang(1, 1, 1), Due.bits(2, 3));
        Due.list(x, 1, 0, 1);
        DUE.is("a DOOR: 3 by 2", x.whatRang(1, 2, 1), Due.bits(0));
        Due.list(x, 1, 0);
        DUE.is("by nothing all could be", x.whatRang(1, 0, 1), 1023);
    }

    private static void theLeastNumberIsSkipped() {
        BellThatIsADoor x = Due.marshOf("b1000;");
        int[] least = {ANY_BYTE, ANY_SHORT, ANY_INT};
        for (int sort = 0; sort < 3; sort++) {
            Due.list(x, 1, sort, least[sort], 103);
            DUE.is("a DOOR opens by the second ring, SORT " + sort, x.whatRang(1, 0, 0), Due.bits(1));
            Due.list(x, 1, sort, least[sort], least[sort]);
            DUE.is("all is skipped, SORT " + sort, x.whatRang(1, 0, 0), 255);
            Due.list(x, 1, sort, least[sort] + 1, 103);
            DUE.is("one more is not, SORT " + sort, x.whatRang(1, 0, 0), 0);
        }
        Due.list(x, 1, 2, ANY_BYTE, ANY_SHORT);
        DUE.is("those of other SORTS are not skipped", x.whatRang(1, 0, 0), 0);
    }

    private static void rungAsNow() {
        BellThatIsADoor x = Due.marshOf("b7900;b2900;");
        for (int i = 0; i < 4; i++) {
            x.rings(0);
        }
        // COUGH 9 opens by the fifth of its 24 STEPS, MARBLE 9 has 25 by the fifth of 10.
        Due.list(x, 1, 0, 12);
        DUE.is("a MARBLE", x.whatRang(1, 0, 0), Due.bits(7));
        Due.list(x, 1, 0, 124);
        DUE.is("a COUGH", x.whatRang(1, 0, 0), Due.bits(3));
        Due.list(x, 1, 0, 124);
        DUE.is("not without RUNG", x.whatRang(1, 1, 0), 0);
        DUE.is("a MARBLE with other FIGURES", x.whatRang(1, 0, 1), 0);
        Due.list(x, 1, 0, 107);
        DUE.is("a MARBLE with FIGURE 0 is not HOME at 8", x.whatRang(1, 0, 1), 0);
    }

    private static void refusedRows() {
        BellThatIsADoor x = Due.marshOf("b0000;");
        Due.list(x, 1, 0, 1);
        x.keep(2, 1, 0, 0);
        x.row(4, 1, 49);
        x.row(5, 1, 48);
        for (int i = 0; i < 48; i++) {
            x.put(5, i, ANY_SHORT);
        }
        for (int call = 0; call < 2; call++) {
            DUE.is("no BELL", call(x, call, 1, 1, 0), -1);
            DUE.is("BELL -1", call(x, call, 1, -1, 0), -1);
            DUE.is("what 2", call(x, call, 1, 0, 2), -1);
            DUE.is("what -1", call(x, call, 1, 0, -1), -1);
            DUE.is("no shelf", call(x, call, 8, 0, 0), -1);
            DUE.is("no shelf -1", call(x, call, -1, 0, 0), -1);
            DUE.is("no BELL is told ahead of nothing held", call(x, call, 3, 1, 0), -1);
            DUE.is("what is told ahead of a KIND held", call(x, call, 2, 0, 2), -1);
            DUE.is("no BELL is told ahead of too many", call(x, call, 4, 1, 0), -1);
            DUE.is("nothing held", call(x, call, 3, 0, 0), -11);
            DUE.is("a KIND held", call(x, call, 2, 0, 1), -12);
            DUE.is("49 numbers", call(x, call, 4, 0, 1), -13);
        }
        DUE.is("48 numbers", x.whatRang(5, 0, 0), 255);
        DUE.is("48 numbers tell", x.tell(5, 0, 0) >= 0 ? 1 : 0, 1);
        for (int what = 0; what < 2; what++) {
            DUE.is("no BELLS", new BellThatIsADoor().whatRang(1, 0, what), -1);
            DUE.is("no BELLS", new BellThatIsADoor().tell(1, 0, what), -1);
        }
    }

    private static int call(BellThatIsADoor x, int call, int d, int b, int what) {
        return call == 0 ? x.whatRang(d, b, what) : x.tell(d, b, what);
    }

    private static void theRingThatTellsMost() {
        BellThatIsADoor x = Due.marshOf("b0000;");
        Due.list(x, 1, 0);
        // FIGURE 0, all KINDS, at 0: BELL 101; DOOR 1 of 3; HEN 100; COUGH not; MAID 0 of 1; SUITED not; ECHO 109; MARBLE 1 of 7.
        DUE.is("how many unlike at 0", x.tell(1, 0, 1), 5);
        DUE.is("no HOUR tells more", x.tell(1, 0, 0), 0);
        BellThatIsADoor nine = Due.marshOf("b0900;");
        Due.list(nine, 1, 0);
        // FIGURE 9 at 10: BELL 110; DOOR 6; HEN 100; MAID 3; ECHO 0 of 0, COUGH, SUITED and MARBLE not HOME.
        DUE.is("how many unlike at 10", nine.tell(1, 0, 1), 5);
        DUE.is("10 tells most", nine.tell(1, 0, 0), 10);
        Due.list(nine, 1, 0, 0);
        // All but HEN and COUGH and MARBLE: BELL 110 and DOOR 6 at 9, no MAID then; at 10 MAID 3, ECHO and SUITED 0.
        DUE.is("unlike of those silent at 8", nine.tell(1, 0, 1), 4);
        DUE.is("10 tells them most", nine.tell(1, 0, 0), 10);
        Due.list(nine, 1, 0, 4);
        DUE.is("COUGH 4 of 24 alone", nine.tell(1, 0, 1), 1);
        DUE.is("the first HOUR is as good", nine.tell(1, 0, 0), 0);
        Due.list(nine, 1, 0, 77);
        DUE.is("no KINDS", nine.tell(1, 0, 1), 0);
        DUE.is("no KINDS, no HOUR tells more", nine.tell(1, 0, 0), 0);
        rungIsNoneAtTheRing();
    }

    private static void rungIsNoneAtTheRing() {
        BellThatIsADoor x = Due.marshOf("b3900;r0;r0;r0;r0;");
        Due.list(x, 1, 0, ANY_BYTE, 0);
        // At 9 BELL and DOOR and MAID are, HEN is; COUGH, SUITED, ECHO, MARBLE are not (ECHO at 10).
        DUE.is("kinds", x.whatRang(1, 0, 0), Due.bits(3, 4, 5, 6, 7));
        // At 0: COUGH 4 of 24, MAID not, SUITED not, ECHO 0, MARBLE 2 of 25.
        DUE.is("unlike", x.tell(1, 0, 1), 3);
        DUE.is("at 0", x.tell(1, 0, 0), 0);
    }

    private static void bellsOfOneDoor() {
        BellThatIsADoor x = Due.marshOf("b2000;b0000;b2900;b0000;b2500;");
        DUE.is("three HENS and two BELLS", x.oneDoor(0), 4);
        DUE.is("the first two", x.oneDoor(1), 2);
        BellThatIsADoor echo = Due.marshOf("b6900;b6800;b5000;b5100;b5200;");
        // SUITED with FIGURES 0, 1, 2: STEPS 1, 2, 2.
        DUE.is("SUITED alike", echo.oneDoor(0), 1);
        DUE.is("3 and 4", echo.oneDoor(1), 34);
        // An ECHO with FIGURE 0 is HOME always and WANTS 1 as a HEN, but has 9 STEPS.
        DUE.is("STEPS unlike", Due.marshOf("b2000;b6000;").oneDoor(0), 0);
        // A COUGH's and a MARBLE's HOURS with FIGURE 9 are alike, not what they WANT.
        DUE.is("WANTS unlike", Due.marshOf("b3900;b7900;").oneDoor(1), -4);
        DUE.is("HOURS unlike", Due.marshOf("b0100;b1000;").oneDoor(0), 0);
        DUE.is("none", new BellThatIsADoor().oneDoor(0), 0);
        DUE.is("none", new BellThatIsADoor().oneDoor(1), -4);
        DUE.is("oneDoor(2)", x.oneDoor(2), -1);
        DUE.is("oneDoor(-1)", x.oneDoor(-1), -1);
    }
}
