/** Promises 1 to 7: a new object, marsh, bell, comes, rings, hours, moves. */
public final class MarshAsToldTest {
    private static final Due DUE = new Due("MarshAsToldTest");

    public static void main(String[] args) {
        newObject();
        goodTexts();
        faultsOfForm();
        faultsOfSense();
        refusedTexts();
        theKinds();
        refusedBells();
        oneComes();
        oneIsRung();
        hoursGoBy();
        oneMoves();
        DUE.end();
    }

    private static void newObject() {
        BellThatIsADoor x = new BellThatIsADoor();
        int[] counts = {0, 8, 0, 0, 0, 0};
        for (int what = 0; what < counts.length; what++) {
            DUE.is("count(" + what + ") of a new object", x.count(what), counts[what]);
        }
        for (int d = 0; d < 8; d++) {
            DUE.is("marsh of an empty shelf " + d, x.marsh(d), -11);
        }
        DUE.is("restore of a new object", x.restore(), -3);
    }

    private static void goodTexts() {
        BellThatIsADoor x = new BellThatIsADoor();
        DUE.is("one bell", Due.text(x, "b0312;"), 1);
        DUE.is("KIND", x.bell(0, 0), 0);
        DUE.is("FIGURE", x.bell(0, 1), 3);
        DUE.is("PLACE", x.bell(0, 2), 12);
        DUE.is("more come, nothing goes", Due.text(x, "b2030;h16;r1;r1;p005;"), 5);
        DUE.is("two BELLS", x.count(0), 2);
        DUE.is("HOUR 8 and 16 is 0", x.count(1), 0);
        DUE.is("DAY", x.count(2), 1);
        DUE.is("PLACE moved", x.bell(0, 2), 5);
        DUE.is("OPENED twice", x.bell(1, 4), 2);
        DUE.is("the text stays and is told again", x.marsh(0), 5);
        DUE.is("three BELLS", x.count(0), 3);
        DUE.is("h01 to h99", Due.text(x, "h01;h99;"), 2);
        DUE.is("HOUR 16 and 100 is 20", x.count(1), 20);
        DUE.is("PLACE 30", Due.text(x, "p130;"), 1);
        DUE.is("PLACE 30 kept", x.bell(1, 2), 30);
        DUE.is("a RING that nobody hears", Due.text(new BellThatIsADoor(), "b5000;r0;"), 2);
        DUE.is("from PLACE 0", Due.text(new BellThatIsADoor(), "b5000;p005;"), 2);
        BellThatIsADoor same = new BellThatIsADoor();
        DUE.is("a text of 100 bytes", Due.text(same, "b0000;b1000;b2000;b3000;b4000;b5000;"
            + "h09;h09;h09;h09;h09;h09;h09;h09;h09;h09;r0;r0;r0;r0;h99;h99;"), 22);
        DUE.is("its second telling has no room", same.marsh(0), -2000);
    }

    private static void faultsOfForm() {
        BellThatIsADoor x = new BellThatIsADoor();
        String[] texts = {"", "x", "b", "b0", "bx", "b00", "b000", "b0000", "b0000:", "b0000;q", "b0000;;",
            "b00x0;", "r", "r0", "rr", "r00;", "h", "h1", "h1;", "h011;", "p", "p0", "p00;", "p0000;",
            "b0000;r0", " b0000;", "B0000;", "b0000; ", "r-;", "b0000;h/9;", "b0000;h9:;", "r9;h99;b"};
        int[] places = {0, 0, 1, 2, 1, 3, 4, 5, 5, 6, 6,
            3, 1, 2, 1, 2, 1, 2, 2, 3, 1, 2, 3, 4,
            8, 0, 0, 6, 1, 7, 8, 8};
        for (int i = 0; i < texts.length; i++) {
            DUE.is("\"" + texts[i] + "\"", Due.text(x, texts[i]), -1000 - places[i]);
        }
        DUE.is("nothing of them has come", x.count(0), 0);
        DUE.is("form is looked at ahead of sense", Due.text(x, "r9;b9999;x"), -1009);
        DUE.is("a byte below 0", lastByteBelowZero(x), -1001);
    }

    private static int lastByteBelowZero(BellThatIsADoor x) {
        Due.list(x, 0, 0, 'r', '0' - 128, ';');
        return x.marsh(0);
    }

    private static void faultsOfSense() {
        BellThatIsADoor x = new BellThatIsADoor();
        String[] texts = {"b8000;", "b9999;", "b0031;", "r0;", "h00;", "p000;", "b0000;r1;", "b0000;r0;p031;",
            "b0000;p100;", "h01;b0000;h00;r9;"};
        int[] places = {0, 0, 0, 0, 0, 0, 6, 9, 6, 10};
        for (int i = 0; i < texts.length; i++) {
            DUE.is("\"" + texts[i] + "\"", Due.text(x, texts[i]), -2000 - places[i]);
        }
        DUE.is("nothing of them has come", x.count(0), 0);
        DUE.is("no HOUR has gone by", x.count(1), 8);
        String six = "b2000;b2000;b2000;b2000;b2000;b2000;";
        DUE.is("a seventh has no room", Due.text(x, six + "b2000;"), -2036);
        DUE.is("six have", Due.text(x, six + "r5;"), 7);
        DUE.is("a seventh has none later", Due.text(x, "r0;b2000;"), -2003);
        DUE.is("r0 was not done", x.count(4), 1);
        toTheLastDay(x);
        DUE.is("DAY would be 1000", Due.text(x, "r0;h01;"), -2003);
        DUE.is("r0 was not done either", x.count(4), 1);
        DUE.is("the last HOUR stays", x.count(1), 23);
    }

    /** From HOUR 8 of DAY 0 to HOUR 23 of DAY 999. */
    private static void toTheLastDay(BellThatIsADoor x) {
        StringBuilder text = new StringBuilder();
        for (int i = 0; i < 25; i++) {
            text.append("h96;");
        }
        for (int i = 0; i < 9; i++) {
            DUE.is("100 DAYS", Due.text(x, text.toString()), 25);
        }
        DUE.is("99 DAYS and 15 HOURS", Due.text(x, text.substring(0, 96) + "h72;") + Due.text(x, "h15;"), 26);
        DUE.is("DAY", x.count(2), 999);
        DUE.is("HOUR", x.count(1), 23);
    }

    private static void refusedTexts() {
        BellThatIsADoor x = new BellThatIsADoor();
        DUE.is("no shelf below 0", x.marsh(-1), -1);
        DUE.is("no shelf 8", x.marsh(8), -1);
        DUE.is("no shelf at all", x.marsh(Integer.MIN_VALUE), -1);
        x.keep(1, 1, 4, 4);
        DUE.is("a KIND is no text", x.marsh(1), -12);
        x.row(1, 1, 6);
        DUE.is("shorts are no text", x.marsh(1), -12);
        x.row(1, 2, 6);
        DUE.is("ints are no text", x.marsh(1), -12);
        x.keep(1, 0, 0, 0);
        DUE.is("nothing is no text", x.marsh(1), -11);
    }

    private static void theKinds() {
        int[] figures = {0, 3, 9};
        int[][] wants = {{1, 1, 1}, {2, 2, 2}, {1, 1, 1}, {2, 3, 5}, {2, 2, 2}, {2, 2, 2}, {1, 2, 5}, {4, 6, 10}};
        int[][] steps = {{1, 4, 10}, {3, 6, 12}, {0, 0, 0}, {6, 12, 24}, {1, 3, 6}, {1, 3, 6}, {9, 6, 0}, {7, 13, 25}};
        int[][] homeAtEight = {{1, 1, 0}, {1, 1, 0}, {1, 1, 1}, {0, 0, 1}, {1, 1, 0}, {0, 0, 0}, {1, 1, 0}, {0, 0, 1}};
        for (int k = 0; k < 8; k++) {
            for (int i = 0; i < figures.length; i++) {
                BellThatIsADoor x = Due.marshOf("b" + k + figures[i] + "17;");
                String one = "bell of KIND " + k + ", FIGURE " + figures[i] + ", ";
                int[] due = {k, figures[i], 17, 0, 0, wants[k][i], steps[k][i], homeAtEight[k][i]};
                for (int what = 0; what < due.length; what++) {
                    DUE.is(one + what, x.bell(0, what), due[what]);
                }
            }
        }
    }

    private static void refusedBells() {
        BellThatIsADoor x = Due.marshOf("b0000;b0000;");
        DUE.is("bell(-1, 0)", x.bell(-1, 0), -1);
        DUE.is("bell(2, 0)", x.bell(2, 0), -1);
        DUE.is("bell(6, 0)", x.bell(6, 0), -1);
        DUE.is("bell(0, -1)", x.bell(0, -1), -1);
        DUE.is("bell(0, 8)", x.bell(0, 8), -1);
    }

    private static void oneComes() {
        BellThatIsADoor x = new BellThatIsADoor();
        x.keep(2, 1, 7, 6);
        DUE.is("comes at PLACE -1", x.comes(2, -1), -1);
        DUE.is("comes at PLACE 31", x.comes(2, 31), -1);
        DUE.is("no shelf and no PLACE", x.comes(8, 0), -1);
        DUE.is("no shelf", x.comes(-1, 0), -1);
        DUE.is("no PLACE is told ahead of nothing held", x.comes(3, 31), -1);
        DUE.is("nothing is held", x.comes(3, 30), -11);
        x.row(3, 0, 4);
        DUE.is("a ROW is held", x.comes(3, 30), -12);
        for (int i = 0; i < 6; i++) {
            DUE.is("its number", x.comes(2, 5 * i), i);
            DUE.is("its PLACE", x.bell(i, 2), 5 * i);
            DUE.is("its KIND", x.bell(i, 0), 7);
            DUE.is("its FIGURE", x.bell(i, 1), 6);
        }
        DUE.is("there is no room", x.comes(2, 0), -2);
        DUE.is("a ROW is told ahead of no room", x.comes(3, 0), -12);
        DUE.is("no PLACE is told ahead of no room", x.comes(2, 31), -1);
        DUE.is("nothing came", x.count(0), 6);
    }

    private static void oneIsRung() {
        BellThatIsADoor x = Due.marshOf("b3905;b5005;b6400;");
        int[] heard = {4, 9, 14, 19, 124};
        for (int i = 0; i < heard.length; i++) {
            DUE.is("RUNG ahead", x.bell(0, 3), i);
            DUE.is("a COUGH rung " + i + " times is rung", x.rings(0), heard[i]);
        }
        DUE.is("RUNG when it has opened", x.bell(0, 3), 0);
        DUE.is("OPENED", x.bell(0, 4), 1);
        DUE.is("no HOUR went by", x.count(1), 8);
        DUE.is("SUITED is rung", x.rings(1), 0);
        DUE.is("an ECHO with FIGURE 4 is not HOME at 8", x.rings(2), 0);
        DUE.is("an HOUR of it", x.hours(2), 10);
        DUE.is("it is at 10", x.rings(2), 1);
        DUE.is("and again", x.rings(2), 3);
        DUE.is("its RUNG", x.bell(2, 3), 2);
        x.hours(1);
        DUE.is("nobody is at 11", x.rings(2), 0);
        DUE.is("its RUNG is 0", x.bell(2, 3), 0);
        DUE.is("no BELL -1", x.rings(-1), -1);
        DUE.is("no BELL 3", x.rings(3), -1);
        opensAtMost99();
    }

    private static void opensAtMost99() {
        BellThatIsADoor x = Due.marshOf("b2000;");
        for (int i = 0; i < 101; i++) {
            DUE.is("a HEN opens", x.rings(0), 100);
            DUE.is("OPENED", x.bell(0, 4), Math.min(99, i + 1));
        }
        DUE.is("OPENED more goes beyond 99", x.behind(0, 60, 0), 60);
    }

    private static void hoursGoBy() {
        BellThatIsADoor x = Due.marshOf("b2000;");
        DUE.is("hours(0)", x.hours(0), -1);
        DUE.is("hours(-1)", x.hours(-1), -1);
        DUE.is("hours(100)", x.hours(100), -1);
        DUE.is("hours(15)", x.hours(15), 23);
        DUE.is("DAY", x.count(2), 0);
        DUE.is("hours(1)", x.hours(1), 0);
        DUE.is("DAY", x.count(2), 1);
        DUE.is("hours(99)", x.hours(99), 3);
        DUE.is("DAY", x.count(2), 5);
        BellThatIsADoor last = new BellThatIsADoor();
        toTheLastDay(last);
        DUE.is("no DAY 1000", last.hours(1), -3);
        DUE.is("nor 1003", last.hours(99), -3);
        DUE.is("a wrong number is told ahead of it", last.hours(100), -1);
        DUE.is("HOUR stays", last.count(1), 23);
        DUE.is("DAY stays", last.count(2), 999);
    }

    private static void oneMoves() {
        BellThatIsADoor x = Due.marshOf("b2012;b2007;");
        DUE.is("moves(1, 30)", x.moves(1, 30), 7);
        DUE.is("moves(1, 0)", x.moves(1, 0), 30);
        DUE.is("its PLACE", x.bell(1, 2), 0);
        DUE.is("the other's", x.bell(0, 2), 12);
        DUE.is("moves(1, -1)", x.moves(1, -1), -1);
        DUE.is("moves(1, 31)", x.moves(1, 31), -1);
        DUE.is("moves(2, 0)", x.moves(2, 0), -1);
        DUE.is("moves(-1, 0)", x.moves(-1, 0), -1);
        DUE.is("its PLACE stays", x.bell(1, 2), 0);
        DUE.is("it stays where it is", x.moves(0, 12), 12);
    }
}
