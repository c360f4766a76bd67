import java.util.ArrayList;
import java.util.List;
import java.util.function.Consumer;

/** Promise 18: "the first that applies is the answer". Of every two faults that can be together, for both kinds. */
public final class OrderTest {
    /** What a response is made of, and what the gate has been through before it comes. */
    private static final class Arrival {
        final Draft draft = new Draft();
        String behind = "";
        boolean isUnread = false;
        boolean isFull = false;

        // At a full desk requests 0 to 19 are answered, a0 to a19 are seen, and request 20 is outstanding.
        int consume() {
            Desk desk = Desk.ready(0, 100);
            for (int r = 0; r < 20 && isFull; r++) {
                desk.gate().request(0);
                Due.is("prepared session", desk.takeIssued(0, r, 1, 1), r);
            }
            if (!isFull) {
                desk.gate().request(0);
                Due.is("prepared session", desk.takeIssued(0, 1, 1, 1), 0);
            }
            if (isFull && draft.irt.equals("0")) {
                draft.asks("20");
            }
            String text = draft.text();
            text = isUnread ? text.replace("<cond", "< cond") : text;
            return desk.fill(text + behind).gate().consume();
        }
    }

    private static List<Consumer<Arrival>> faultsOfResponses() {
        List<Consumer<Arrival>> faults = new ArrayList<>();
        faults.add(s -> s.behind = "&");
        faults.add(s -> s.isUnread = true);
        faults.add(s -> s.draft.respExtra = "<x id=\"r0\"/>");
        faults.add(s -> s.draft.assnExtra = "<cond/>");
        faults.add(s -> s.draft.signed(false, false));
        faults.add(s -> s.draft.offBy = 1);
        faults.add(s -> s.draft.iss = "p1");
        faults.add(s -> s.draft.to = "sp");
        faults.add(s -> s.draft.stat = "no");
        faults.add(s -> s.draft.asks("25"));
        faults.add(s -> s.draft.aud = "acs");
        faults.add(s -> s.draft.nb = "1");
        faults.add(s -> s.draft.rcp = "sp");
        faults.add(s -> s.draft.assnId = "a0");
        faults.add(s -> s.isFull = true);
        return faults;
    }

    // What has no sig has no sig that is not valid.
    private static boolean canBeTogether(int first, int second) {
        return !(first == -5 && second == -6);
    }

    private static void responses() {
        List<Consumer<Arrival>> faults = faultsOfResponses();
        Due.is("a response without a fault", new Arrival().consume(), 1);
        for (int i = 0; i < faults.size(); i++) {
            for (int j = i; j < faults.size(); j++) {
                Arrival arrival = new Arrival();
                faults.get(i).accept(arrival);
                faults.get(j).accept(arrival);
                if (canBeTogether(-1 - i, -1 - j)) {
                    Due.is("a response with the faults of " + (-1 - i) + " and " + (-1 - j), arrival.consume(), -1 - i);
                }
            }
        }
    }

    /** The other faults that share an answer, each against those of the answers beside it. */
    private static void sharedAnswers() {
        List<Consumer<Draft>> faults = new ArrayList<>();
        int[] answers = {-9, -10, -10, -11, -12, -12, -13, -13, -13};
        faults.add(d -> d.stat = "no");
        faults.add(d -> d.irt = "x");
        faults.add(d -> d.asks("1"));
        faults.add(d -> d.aud = "acs");
        faults.add(d -> d.nb = "1");
        faults.add(d -> d.noa = "0");
        faults.add(d -> d.rcp = "sp");
        faults.add(d -> d.confIrt = "1");
        faults.add(d -> d.confNoa = "0");
        for (int i = 0; i < answers.length; i++) {
            for (int j = i; j < answers.length; j++) {
                Consumer<Draft> both = faults.get(i).andThen(faults.get(j));
                Due.is("faults " + i + " and " + j, Take.response(both), answers[i]);
            }
        }
    }

    /** The same for a logout; its faults have no answers -7 and -9 to -13. */
    private static final class Leaving {
        final LogoutDraft draft = new LogoutDraft();
        String behind = "";
        boolean isFull = false;

        // o0 is seen, and at a full desk o0 to o39.
        int consume() {
            Desk desk = Desk.ready(0, 100);
            for (int x = 0; x < (isFull ? 40 : 1); x++) {
                desk.gate().leave(0, 1);
                Due.is("prepared logout", desk.gate().consume(), 100);
            }
            return desk.fill(draft.text() + behind).gate().consume();
        }
    }

    private static void logouts() {
        List<Consumer<Leaving>> faults = new ArrayList<>();
        int[] answers = {-1, -2, -3, -4, -5, -6, -8, -14, -15};
        faults.add(s -> s.behind += "&");
        faults.add(s -> s.behind += " ");
        faults.add(s -> s.draft.extra += "<x id=\"y\"/><x id=\"y\"/>");
        faults.add(s -> s.draft.extra += "<name/>");
        faults.add(s -> s.draft.isSigned = false);
        faults.add(s -> s.draft.offBy = 1);
        faults.add(s -> s.draft.to = "sp");
        faults.add(s -> s.draft.id = "o0");
        faults.add(s -> {
            s.isFull = true;
            s.draft.id = s.draft.id.equals("o1") ? "zz" : s.draft.id;
        });
        Leaving good = new Leaving();
        Due.is("a logout without a fault", good.consume(), 100);
        for (int i = 0; i < answers.length; i++) {
            for (int j = i; j < answers.length; j++) {
                Leaving leaving = new Leaving();
                faults.get(i).accept(leaving);
                faults.get(j).accept(leaving);
                if (canBeTogether(answers[i], answers[j])) {
                    String what = "a logout with the faults of " + answers[i] + " and " + answers[j];
                    Due.is(what, leaving.consume(), answers[i]);
                }
            }
        }
    }

    public static void main(String[] args) {
        responses();
        sharedAnswers();
        logouts();
        Due.end();
    }
}
