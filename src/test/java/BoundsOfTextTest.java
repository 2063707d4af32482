/** A test for each sentence that names a bound of THE TEXT of a MARSH and its FAULT (promise 2). */
public final class BoundsOfTextTest {
    private static final Due DUE = new Due("BoundsOfTextTest");
    private static final String SIX = "b2000;b2000;b2000;b2000;b2000;b2000;";

    public static void main(String[] args) {
        oneStatementAtLeast();
        semicolonBehindEach();
        statementsBegin();
        digitsOfABell();
        digitsOfARing();
        digitsOfHours();
        digitsOfAMove();
        digitsAreDigits();
        bytesBelowZero();
        endLacks();
        formAheadOfSense();
        kindOutOfRange();
        placeOutOfRange();
        noSuchBell();
        hoursOutOfRange();
        dayAbove();
        noRoom();
        firstStatementIsTold();
        oneBehindTheOther();
        allOfItComes();
        withOneNothing();
        rowStays();
        howManyStatements();
        longestText();
        refused();
        DUE.end();
    }

    /** The answer to a text told to a new object, of which nothing comes if it is a FAULT. */
    private static void fault(String text, int due) {
        BellThatIsADoor x = new BellThatIsADoor();
        String ahead = Told.marsh(x);
        DUE.is("\"" + text + "\"", Due.text(x, text), due);
        DUE.same("\"" + text + "\"", Told.marsh(x), ahead);
    }

    private static void good(String text, int statements) {
        DUE.is("\"" + text + "\"", Due.text(new BellThatIsADoor(), text), statements);
    }

    private static void oneStatementAtLeast() {
        DUE.sentence("STATEMENTS, .. one at least");
        fault("", -1000);
        fault(";", -1000);
        good("h01;", 1);
    }

    private static void semicolonBehindEach() {
        DUE.sentence("STATEMENTS, each with \";\" behind");
        fault("b2000", -1005);
        fault("b2000;r0", -1008);
        fault("h01;h01", -1007);
        fault("h01h01;", -1003);
        fault("h01,", -1003);
        fault("h01:", -1003);
        fault("h01;;", -1004);
        fault("h01; ", -1004);
        good("b2000;r0;", 2);
    }

    private static void statementsBegin() {
        DUE.sentence("\"b\" .. \"r\" .. \"h\" .. \"p\" ..");
        String letters = "acgiqosBRHP 0;\n/:";
        for (int i = 0; i < letters.length(); i++) {
            fault(letters.charAt(i) + "000;", -1000);
            fault("h01;" + letters.charAt(i) + "000;", -1004);
        }
        good("b2000;r0;h01;p000;", 4);
    }

    private static void digitsOfABell() {
        DUE.sentence("\"b\" KIND, FIGURE (a digit each), PLACE (2 digits) .. just as many digits as told");
        fault("b;", -1001);
        fault("b2;", -1002);
        fault("b20;", -1003);
        fault("b200;", -1004);
        good("b2000;", 1);
        fault("b20000;", -1005);
    }

    private static void digitsOfARing() {
        DUE.sentence("\"r\" a BELL (a digit) .. just as many digits as told");
        fault("b2000;r;", -1007);
        good("b2000;r0;", 2);
        fault("b2000;r00;", -1008);
    }

    private static void digitsOfHours() {
        DUE.sentence("\"h\" HOURS (2 digits ..) .. just as many digits as told");
        fault("h;", -1001);
        fault("h1;", -1002);
        good("h01;", 1);
        fault("h001;", -1003);
    }

    private static void digitsOfAMove() {
        DUE.sentence("\"p\" a BELL (a digit), PLACE (2 digits) .. just as many digits as told");
        fault("b2000;p;", -1007);
        fault("b2000;p0;", -1008);
        fault("b2000;p01;", -1009);
        good("b2000;p001;", 2);
        fault("b2000;p0001;", -1010);
    }

    private static void digitsAreDigits() {
        DUE.sentence("digits: \"0\" .. \"9\", not the signs ahead of and behind them");
        String signs = "/:-+ aA\u0000\u007f";
        for (int i = 0; i < signs.length(); i++) {
            String sign = signs.substring(i, i + 1);
            fault("h" + sign + "1;", -1001);
            fault("h1" + sign + ";", -1002);
            fault("b2000;r" + sign + ";", -1007);
            for (int at = 1; at <= 4; at++) {
                fault("b2000".substring(0, at) + sign + "b2000;".substring(at + 1), -1000 - at);
            }
            for (int at = 1; at <= 3; at++) {
                fault("b2000;" + "p000".substring(0, at) + sign + "p000;".substring(at + 1), -1006 - at);
            }
        }
        good("h09;h90;", 2);
    }

    private static void bytesBelowZero() {
        DUE.sentence("THE TEXT of a MARSH stands in a ROW of bytes (what is put in keeps its lowest bits)");
        BellThatIsADoor x = new BellThatIsADoor();
        Due.list(x, 0, 0, 'h' + 256, '0' - 256, '1' + 65536, ';' - 512);
        DUE.is("the lowest bits of a text", x.marsh(0), 1);
        Due.list(x, 0, 0, 'h', '0' + 128, '1', ';');
        DUE.is("a byte below 0 is no digit", x.marsh(0), -1001);
        Due.list(x, 0, 0, 'h' + 128, '0', '1', ';');
        DUE.is("a byte below 0 is no letter", x.marsh(0), -1000);
        Due.list(x, 0, 0, 'h', '0', '1', ';' + 128);
        DUE.is("a byte below 0 is no \";\"", x.marsh(0), -1003);
        x.row(0, 0, 4);
        DUE.is("four bytes that are 0", x.marsh(0), -1000);
    }

    private static void endLacks() {
        DUE.sentence("the place of the first byte with which no MARSH can go on (the end, if something lacks)");
        String text = "b2000;r0;h01;p030;";
        for (int length = 0; length <= text.length(); length++) {
            boolean isWhole = length == 6 || length == 9 || length == 13 || length == 18;
            String begun = text.substring(0, length);
            if (isWhole) {
                good(begun, length == 6 ? 1 : length == 9 ? 2 : length == 13 ? 3 : 4);
            } else {
                fault(begun, -1000 - length);
            }
        }
    }

    private static void formAheadOfSense() {
        DUE.sentence("FAULT: kind 1 ..; else kind 2 ..");
        fault("r0;x", -1003);
        fault("b9999;h00;r9;", -2000);
        fault("b9999;h00;r9", -1012);
        fault("b8000", -1005);
        fault("b2000;r1;h0;", -1011);
        fault("h00;h00", -1007);
        good("b2000;r0;", 2);
    }

    private static void kindOutOfRange() {
        DUE.sentence("kind 2: a number out of range: KIND 0 .. 7");
        good("b0000;b7000;", 2);
        fault("b8000;", -2000);
        fault("b9000;", -2000);
        fault("h01;b8000;", -2004);
    }

    private static void placeOutOfRange() {
        DUE.sentence("kind 2: a number out of range: PLACE 0 .. 30");
        good("b2000;b2030;p000;p030;p130;p100;", 6);
        fault("b2031;", -2000);
        fault("b2099;", -2000);
        fault("b2000;p031;", -2006);
        fault("b2000;p099;", -2006);
    }

    private static void noSuchBell() {
        DUE.sentence("kind 2: no such one");
        fault("r0;", -2000);
        fault("p000;", -2000);
        good("b2000;r0;p000;", 3);
        fault("b2000;r1;", -2006);
        fault("b2000;p100;", -2006);
        good(SIX + "r5;p500;", 8);
        fault(SIX + "r6;", -2036);
        fault(SIX + "r9;", -2036);
        fault(SIX + "p600;", -2036);
        fault(SIX + "p900;", -2036);
    }

    private static void hoursOutOfRange() {
        DUE.sentence("\"h\" HOURS (2 digits, 1 .. 99)");
        fault("h00;", -2000);
        good("h01;", 1);
        good("h99;", 1);
        BellThatIsADoor x = Due.marshOf("h99;h01;");
        DUE.is("HOUR 8 and 100", x.count(1), 12);
        DUE.is("DAY", x.count(2), 4);
    }

    private static void dayAbove() {
        DUE.sentence("kind 2: DAY above 999");
        BellThatIsADoor x = new BellThatIsADoor();
        x.image();
        Samples.toTheLastHour(x);
        String ahead = Told.marsh(x);
        DUE.is("h01;", Due.text(x, "h01;"), -2000);
        DUE.is("h99;", Due.text(x, "h99;"), -2000);
        DUE.is("b2000;r0;h01;", Due.text(x, "b2000;r0;h01;"), -2009);
        DUE.same("all of it", Told.marsh(x), ahead);
        DUE.is("b2000;", Due.text(x, "b2000;"), 1);
        x.restore();
        for (int i = 0; i < 242; i++) {
            x.hours(99);
        }
        DUE.is("33 HOURS to the last", Due.text(x, "h34;"), -2000);
        DUE.is("two steps, one too many", Due.text(x, "h33;h01;"), -2004);
        DUE.is("no HOUR goes by", x.count(1), 14);
        DUE.is("h32;h01;", Due.text(x, "h32;h01;"), 2);
        DUE.is("HOUR", x.count(1), 23);
        DUE.is("DAY", x.count(2), 999);
    }

    private static void noRoom() {
        DUE.sentence("kind 2: no room");
        good(SIX, 6);
        fault(SIX + "b2000;", -2036);
        fault(SIX + "r0;b2000;", -2039);
        BellThatIsADoor x = Due.marshOf("b2000;b2000;b2000;b2000;b2000;");
        DUE.is("five and two", Due.text(x, "b2000;b2000;"), -2006);
        DUE.is("five", x.count(0), 5);
        DUE.is("five and one", Due.text(x, "b2000;"), 1);
        DUE.is("six and one", Due.text(x, "b2000;"), -2000);
        DUE.is("six", x.count(0), 6);
    }

    private static void firstStatementIsTold() {
        DUE.sentence("the place of the letter of the first STATEMENT that is not as it must be");
        fault("b2000;r1;r2;", -2006);
        fault("b2000;r0;r2;r3;", -2009);
        fault("h01;h00;b9999;", -2004);
        fault("b2000;p031;h00;", -2006);
        fault("b2000;h01;r0;p000;b2000;r2;", -2024);
    }

    private static void oneBehindTheOther() {
        DUE.sentence("STATEMENTS are tried one behind the other, each on what those ahead of it made");
        fault("r0;b2000;", -2000);
        good("b2000;r0;b2000;r1;p130;p000;", 6);
        BellThatIsADoor x = Due.marshOf("b1000;r0;h24;r0;h04;r0;p015;p016;");
        DUE.is("rung twice in HOURS when it is HOME", x.bell(0, 4), 1);
        DUE.is("HOUR", x.count(1), 12);
        DUE.is("PLACE", x.bell(0, 2), 16);
        BellThatIsADoor late = Due.marshOf("b1000;r0;h04;r0;h12;r0;");
        DUE.is("nobody HOME between", late.bell(0, 4), 0);
        DUE.is("RUNG anew", late.bell(0, 3), 1);
    }

    private static void allOfItComes() {
        DUE.sentence("Without FAULT all of it comes");
        BellThatIsADoor x = Due.marshOf("b3920;r0;");
        DUE.is("beside those that are there", Due.text(x, "b2007;r1;r0;p029;h30;"), 5);
        int[] counts = {2, 14, 1, 2, 1, 24};
        for (int what = 0; what < counts.length; what++) {
            DUE.is("count(" + what + ")", x.count(what), counts[what]);
        }
        DUE.is("PLACE", x.bell(0, 2), 29);
        DUE.is("PLACE of the new one", x.bell(1, 2), 7);
    }

    private static void withOneNothing() {
        DUE.sentence("with one [FAULT] nothing [comes]");
        BellThatIsADoor x = Due.marshOf("b3920;b2004;r0;h30;");
        String[] texts = {"b2007;r0;r1;h99;p000;r3;", "b2007;r0;r1;h99;p000;x", "r0;h00;", "h01;p031;", "p000;p200;", ""};
        int[] due = {-2021, -1021, -2003, -2004, -2005, -1000};
        x.image();
        String ahead = Told.marsh(x);
        for (int i = 0; i < texts.length; i++) {
            DUE.is("\"" + texts[i] + "\"", Due.text(x, texts[i]), due[i]);
            DUE.same("\"" + texts[i] + "\"", Told.marsh(x), ahead);
        }
        x.restore();
        DUE.same("THE IMAGE", Told.marsh(x), ahead);
    }

    private static void rowStays() {
        DUE.sentence("The ROW of a text .. stay[s] there");
        BellThatIsADoor x = new BellThatIsADoor();
        String[] texts = {"b2000;r0;", "r9;", "x"};
        for (String text : texts) {
            Due.shelve(x, 7, text);
            String ahead = Told.shelves(x);
            x.marsh(7);
            DUE.same("\"" + text + "\"", Told.shelves(x), ahead);
        }
        Due.shelve(x, 7, "b2000;r0;");
        DUE.is("told again", x.marsh(7), 2);
        DUE.is("and again", x.marsh(7), 2);
        DUE.is("BELLS", x.count(0), 3);
    }

    private static void howManyStatements() {
        DUE.sentence("The text in SHELF d: how many STATEMENTS");
        good("h01;", 1);
        good("h01;h01;", 2);
        good("b2000;r0;r0;r0;h99;p030;r0;", 7);
    }

    private static void longestText() {
        DUE.sentence("0 .. 100 elements [of a text]");
        StringBuilder text = new StringBuilder("b2000;");
        while (text.length() < 99) {
            text.append("r0;");
        }
        DUE.is("its length", text.length(), 99);
        good(text.toString(), 32);
        fault(text + "h", -1100);
        fault(text + ";", -1099);
        good(text.substring(0, 96) + "h01;", 32);
        fault(text.substring(0, 96) + "h00;", -2096);
        fault(text.substring(0, 96) + "h011", -1099);
    }

    private static void refused() {
        DUE.sentence("-1, -11, -12 (no ROW of bytes)");
        Told.unchanged(DUE, "marsh(-1)", Samples::some, x -> x.marsh(-1), -1);
        Told.unchanged(DUE, "marsh(8)", Samples::some, x -> x.marsh(8), -1);
        Told.unchanged(DUE, "marsh of nothing", Samples::some, x -> x.marsh(Samples.NOTHING), -11);
        Told.unchanged(DUE, "marsh of a KIND", Samples::some, x -> x.marsh(Samples.HEN), -12);
        Told.unchanged(DUE, "marsh of shorts", Samples::some, x -> x.marsh(Samples.SHORTS), -12);
        Told.unchanged(DUE, "marsh of ints", Samples::some, x -> x.marsh(Samples.INTS), -12);
        Told.unchanged(DUE, "marsh of zeros", Samples::some, x -> x.marsh(Samples.TOO_MANY), -1000);
        Told.unchanged(DUE, "no room", Samples::full, x -> x.marsh(Samples.TEXT), -2000);
        Told.unchanged(DUE, "DAY above 999", Samples::last, x -> x.marsh(Samples.TEXT), -2006);
        DUE.is("a good one", Samples.some().marsh(Samples.TEXT), 2);
    }
}
