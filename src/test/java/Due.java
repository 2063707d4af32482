/** Counts the answers of one test that are as due, and tells those that are not. */
final class Due {
    private static final int THREW_ARGUMENT = 1;
    private static final int THREW_STATE = 2;

    private final String test;
    private String sentence = "";
    private int sentences;
    private int right;
    private int wrong;

    Due(String test) {
        this.test = test;
    }

    /** From here on the answers are those of this sentence of the document. */
    void sentence(String told) {
        sentence = " (\"" + told + "\")";
        sentences++;
    }

    void is(String call, long got, long want) {
        if (got == want) {
            right++;
            return;
        }
        wrong++;
        System.out.println(test + ": " + call + " answered " + got + ", due is " + want + sentence);
    }

    void same(String call, String got, String want) {
        if (got.equals(want)) {
            right++;
            return;
        }
        wrong++;
        System.out.println(test + ": " + call + " left " + got + ", due is " + want + sentence);
    }

    /** The sum of 1 << i for the numbers told: a set as bits. */
    static int bits(int... numbers) {
        int bits = 0;
        for (int i : numbers) {
            bits |= 1 << i;
        }
        return bits;
    }

    void noShelf(BellThatIsADoor x, int d, int i) {
        is("what element(" + d + ", " + i + ") throws", thrownBy(x, d, i), THREW_ARGUMENT);
    }

    void noElement(BellThatIsADoor x, int d, int i) {
        is("what element(" + d + ", " + i + ") throws", thrownBy(x, d, i), THREW_STATE);
    }

    /** 0 if element answers, 1 or 2 by what it throws. */
    static int thrownBy(BellThatIsADoor x, int d, int i) {
        try {
            x.element(d, i);
            return 0;
        } catch (IllegalArgumentException e) {
            return THREW_ARGUMENT;
        } catch (IllegalStateException e) {
            return THREW_STATE;
        }
    }

    /** Puts a ROW with these elements on a SHELF. */
    static void list(BellThatIsADoor x, int d, int sort, int... elements) {
        x.row(d, sort, elements.length);
        for (int i = 0; i < elements.length; i++) {
            x.put(d, i, elements[i]);
        }
    }

    /** Puts a text into a ROW of bytes on a SHELF. */
    static void shelve(BellThatIsADoor x, int d, String text) {
        x.row(d, 0, text.length());
        for (int i = 0; i < text.length(); i++) {
            x.put(d, i, text.charAt(i));
        }
    }

    /** Puts a text on SHELF 0 and tells it to the marsh. */
    static int text(BellThatIsADoor x, String text) {
        shelve(x, 0, text);
        return x.marsh(0);
    }

    /** A new object of which a text has been told. */
    static BellThatIsADoor marshOf(String text) {
        BellThatIsADoor x = new BellThatIsADoor();
        int statements = text(x, text);
        if (statements < 1) {
            throw new IllegalStateException("the text of a test is at fault: " + text + " " + statements);
        }
        beUnsettled(x);
        return x;
    }

    /** A text with a FAULT behind other BELLS and HOURS: what follows must not see what came in mind alone. */
    static void beUnsettled(BellThatIsADoor x) {
        shelve(x, 7, "r0;h13;b2900;b5900;r9;");
        x.marsh(7);
        x.keep(7, 0, 0, 0);
    }

    /** Prints how it went and ends the program; 1 if an answer was not as due. */
    void end() {
        String told = sentences == 0 ? "" : " to " + sentences + " sentences";
        System.out.println(test + ": " + right + " answers" + told + " as due, " + wrong + " not");
        System.exit(wrong == 0 ? 0 : 1);
    }
}
