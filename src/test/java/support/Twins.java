import java.util.function.Function;
import java.util.function.Supplier;
import java.util.function.ToIntFunction;

/**
 * Two gates that have gone through the same calls. One of them is asked for what it refuses; then all that can be seen
 * of a gate has to be the same in both. Looking changes a gate, so each look has twins of its own.
 */
final class Twins {
    private Twins() {
    }

    /** The call answers what is due, and the gate is as if it had not been called. */
    static void unchanged(String what, Supplier<Desk> made, ToIntFunction<AssertionGate> call, int due) {
        for (int third = 0; third < 3; third++) {
            int start = third;
            same(what + ": text and scrap", made, call, due, desk -> lookAtText(desk, start));
        }
        same(what + ": issuers and clock", made, call, due, Twins::lookAtIssuers);
        same(what + ": sessions", made, call, due, Twins::lookAtSessions);
        same(what + ": requests", made, call, due, Twins::lookAtRequests);
        same(what + ": requests made", made, call, due, Twins::lookAtRoomForRequests);
        same(what + ": keys seen", made, call, due, Twins::lookAtSeen);
    }

    static void refused(String what, Supplier<Desk> made, ToIntFunction<AssertionGate> call) {
        unchanged(what, made, call, 0);
    }

    static int said(boolean answer) {
        return answer ? 1 : 0;
    }

    private static void same(String what, Supplier<Desk> made, ToIntFunction<AssertionGate> call, int due,
            Function<Desk, String> look) {
        Desk called = made.get();
        Due.is(what + ", the answer", call.applyAsInt(called.gate()), due);
        Due.is(what + ", behind it", look.apply(called), look.apply(made.get()));
    }

    // A third of the places each time: a text by hand and a look at all of it would be more than 512 calls.
    private static void addThird(Desk desk, int third, StringBuilder seen) {
        int size = desk.gate().length();
        seen.append(size).append(':');
        for (int p = third; p < size; p += 3) {
            seen.append((char) desk.gate().at(p));
        }
        seen.append('|');
    }

    private static String lookAtText(Desk desk, int third) {
        StringBuilder seen = new StringBuilder();
        addThird(desk, third, seen);
        desk.gate().clear();
        desk.gate().paste(0);
        addThird(desk, third, seen);
        return seen.toString();
    }

    /** Clock, private keys and the count of issued texts are in what is issued; trust is in what is consumed. */
    private static String lookAtIssuers(Desk desk) {
        StringBuilder seen = new StringBuilder();
        for (int k = 0; k < 4; k++) {
            seen.append(desk.gate().issue(k, 7, 8, 9, 3)).append(' ').append(desk.gate().length());
            for (int e = 0; e <= 10; e++) {
                seen.append(' ').append(desk.gate().digest(e));
            }
            desk.gate().key(k, Desk.MODULUS, Desk.PRIVATE_EXPONENT);
            seen.append(' ').append(desk.gate().leave(k, 1)).append(' ').append(desk.gate().consume()).append('|');
        }
        return seen.toString();
    }

    private static String lookAtSessions(Desk desk) {
        StringBuilder seen = new StringBuilder();
        for (int s = -1; s <= 20; s++) {
            seen.append(desk.gate().session(s)).append(' ').append(desk.gate().name(s, 0)).append(' ')
                .append(desk.gate().name(s, 1)).append(' ').append(desk.gate().name(s, 2)).append('|');
        }
        return seen.toString();
    }

    /** Which requests are outstanding, to whom, and until when. */
    private static String lookAtRequests(Desk desk) {
        StringBuilder seen = new StringBuilder();
        seen.append(desk.gate().outstanding());
        for (int k = 0; k < 2; k++) {
            for (int r = 0; r < 4; r++) {
                desk.gate().issue(k, r, 1, 999, 0);
                seen.append(' ').append(desk.gate().consume());
                desk.gate().issue(k, r, 1, 999, 1);
                seen.append(' ').append(desk.gate().consume());
            }
        }
        for (int i = 0; i < 50; i++) {
            desk.gate().pass(2);
            seen.append(' ').append(desk.gate().outstanding());
        }
        return seen.toString();
    }

    private static String lookAtRoomForRequests(Desk desk) {
        StringBuilder seen = new StringBuilder();
        seen.append(desk.gate().consume()).append(' ').append(desk.gate().elements());
        for (int i = 0; i < 31; i++) {
            seen.append(' ').append(desk.gate().request(i % 4)).append(' ').append(desk.gate().outstanding());
        }
        return seen.toString();
    }

    /** The text is consumed twice, and as many logouts as there is room for. */
    private static String lookAtSeen(Desk desk) {
        StringBuilder seen = new StringBuilder();
        seen.append(desk.gate().consume()).append(' ').append(desk.gate().consume());
        for (int i = 0; i < 41; i++) {
            desk.gate().leave(0, i);
            seen.append(' ').append(desk.gate().consume());
        }
        return seen.toString();
    }
}
