/** Counts the answers of one test that are as due, and tells those that are not. */
final class Due {
    private static final int THREW_ARGUMENT = 1;
    private static final int THREW_STATE = 2;

    private final String test;
    private int right;
    private int wrong;

    Due(String test) {
        this.test = test;
    }

    void is(String call, long got, long want) {
        if (got == want) {
            right++;
            return;
        }
        wrong++;
        System.out.println(test + ": " + call + " answered " + got + ", due is " + want);
    }

    /** The sum of 1 << i for the numbers told: a set as bits. */
    static int bits(int... numbers) {
        int bits = 0;
        for (int i : numbers) {
            bits |= 1 << i;
        }
        return bits;
    }

    void noShelf(BellThatIsADoor x, int d, int i) {
        is("what element(" + d + ", " + i + ") throws", thrownBy(x, d, i), THREW_ARGUMENT);
    }

    void noElement(BellThatIsADoor x, int d, int i) {
        is("what element(" + d + ", " + i + ") throws", thrownBy(x, d, i), THREW_STATE);
    }

    /** 0 if element answers, 1 or 2 by what it throws. */
    static int thrownBy(BellThatIsADoor x, int d, int i) {
        try {
            x.element(d, i);
            return 0;
        } catch (IllegalArgumentException e) {
            return THREW_ARGUMENT;
        } catch (IllegalStateException e) {
            return THREW_STATE;
        }
    }

    /** Puts a ROW with these elements on a SHELF. */
    static void list(BellThatIsADoor x, int d, int sort, int... elements) {
        x.row(d, sort, elements.length);
        for (int i = 0; i < elements.length; i++) {
            x.put(d, i, elements[i]);
        }
    }

    /** Puts a text on SHELF 0 and tells it to the marsh. */
    static int text(BellThatIsADoor x, String text) {
        x.row(0, 0, text.length());
        for (int i = 0; i < text.length(); i++) {
            x.put(0, i, text.charAt(i));
        }
        return x.marsh(0);
    }

    /** A new object of which a text has been told. */
    static BellThatIsADoor marshOf(String text) {
        BellThatIsADoor x = new BellThatIsADoor();
        int statements = text(x, text);
        if (statements < 1) {
            throw new IllegalStateException("the text of a test is at fault: " + text + " " + statements);
        }
        return x;
    }

    /** Prints how it went and ends the program; 1 if an answer was not as due. */
    void end() {
        System.out.println(test + ": " + right + " answers as due, " + wrong + " not");
        System.exit(wrong == 0 ? 0 : 1);
    }
}
