import java.util.function.Supplier;
import java.util.function.ToLongFunction;

/** All that an object tells of itself, so that a test can see that a call changes nothing. */
final class Told {
    static final int SHELVES = 8;

    private Told() {
    }

    /** All BELLS, HOUR, DAY. */
    static String marsh(BellThatIsADoor x) {
        StringBuilder text = new StringBuilder();
        for (int what = 0; what <= 5; what++) {
            text.append(x.count(what)).append(' ');
        }
        for (int b = 0; b < 6; b++) {
            text.append('/');
            for (int what = 0; what <= 7; what++) {
                text.append(x.bell(b, what)).append(' ');
            }
        }
        return text.toString();
    }

    /** What each SHELF holds: the KIND by COST and FAILURE, a ROW by its elements and by those of one SORT with it. */
    static String shelves(BellThatIsADoor x) {
        StringBuilder text = new StringBuilder();
        int ahead = -1;
        for (int d = 0; d < SHELVES; d++) {
            text.append(d).append(": ").append(x.cost(d)).append(' ').append(x.toss(d)).append(' ');
            if (x.cost(d) != -12) {
                continue;
            }
            for (int i = 0; Due.thrownBy(x, d, i) == 0; i++) {
                text.append(x.element(d, i)).append(',');
            }
            text.append(ahead < 0 ? "" : " like the one ahead: " + x.copy(ahead, 0, d, 0, 0)).append(' ');
            ahead = d;
        }
        return text.toString();
    }

    static String all(BellThatIsADoor x) {
        return marsh(x) + shelves(x);
    }

    /** A call that is refused, or only asks: what it answers, and that all is as with one of which it was not asked. */
    static void unchanged(Due due, String call, Supplier<BellThatIsADoor> maker,
            ToLongFunction<BellThatIsADoor> done, long want) {
        BellThatIsADoor asked = maker.get();
        BellThatIsADoor other = maker.get();
        due.is(call, done.applyAsLong(asked), want);
        due.same(call, all(asked), all(other));
        due.is("THE IMAGE behind " + call, asked.restore(), other.restore());
        due.same("THE IMAGE behind " + call, all(asked), all(other));
    }
}
