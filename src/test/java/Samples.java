/** Objects to try calls on: alike in their SHELVES, unlike in their BELLS, HOUR and DAY. */
final class Samples {
    static final int TEXT = 0;
    static final int SHORTS = 1;
    static final int INTS = 2;
    static final int MARBLE = 3;
    static final int NOTHING = 4;
    static final int TOO_MANY = 5;
    static final int LIST = 6;
    static final int HEN = 7;

    private Samples() {
    }

    /** No BELLS, no IMAGE. */
    static BellThatIsADoor none() {
        return shelved(new BellThatIsADoor());
    }

    /** Three BELLS, of which one is RUNG and one OPENED; HOUR 10 of DAY 2; another IMAGE. */
    static BellThatIsADoor some() {
        BellThatIsADoor x = Due.marshOf("b3912;b2030;b1001;r1;h24;");
        x.image();
        Due.text(x, "r0;r1;p107;h26;r2;");
        return shelved(x);
    }

    /** Six BELLS: there is no room. */
    static BellThatIsADoor full() {
        BellThatIsADoor x = Due.marshOf("b2000;b0905;b4010;b6415;r0;");
        x.image();
        Due.text(x, "b5020;b7930;h04;r3;r5;");
        return shelved(x);
    }

    /** HOUR 23 of DAY 999. */
    static BellThatIsADoor last() {
        BellThatIsADoor x = Due.marshOf("b2000;b7100;");
        x.image();
        toTheLastHour(x);
        Due.text(x, "r1;");
        return shelved(x);
    }

    /** From HOUR 8 of DAY 0 to HOUR 23 of DAY 999: 23991 HOURS. */
    static void toTheLastHour(BellThatIsADoor x) {
        StringBuilder text = new StringBuilder();
        for (int i = 0; i < 25; i++) {
            text.append("h99;");
        }
        Due.text(x, text.toString());
        for (int i = 0; i < 8; i++) {
            x.marsh(0);
        }
        Due.text(x, text.substring(0, 17 * 4) + "h33;");
    }

    private static BellThatIsADoor shelved(BellThatIsADoor x) {
        Due.beUnsettled(x);
        Due.shelve(x, TEXT, "b2000;h01;");
        Due.list(x, SHORTS, 1, 100, -32768, 300);
        Due.list(x, INTS, 2, 1, 70000);
        x.keep(MARBLE, 1, 7, 6);
        x.keep(NOTHING, 0, 0, 0);
        x.row(TOO_MANY, 0, 49);
        Due.list(x, LIST, 0, 1, 0, 1);
        x.keep(HEN, 1, 2, 3);
        return x;
    }
}
