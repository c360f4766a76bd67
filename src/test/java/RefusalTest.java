import java.util.function.Consumer;
import java.util.function.Supplier;
import java.util.function.ToIntFunction;

/** "What is refused, answered with false or a negative number, changes nothing." Every refusal of every call. */
public final class RefusalTest {
    private static final int[] NO_ISSUERS = {-1, 4};
    private static final int[] NO_MODULI = {65520, 1000001};
    private static final int[] NO_EXPONENTS = {0, 1000001};
    private static final char[] NO_CODES = {31, 127};
    private static final String TEXT = "<a b=\"1\">cd</a>";

    /** A gate that holds something of everything: request 2 is outstanding, session 0 open, a0 and o1 are seen. */
    private static Desk busy() {
        Desk desk = Desk.ready(3, 100);
        desk.gate().request(1);
        desk.gate().request(0);
        desk.gate().pass(5);
        Due.is("session 0", desk.takeIssued(0, 0, 7, 1), 0);
        desk.gate().leave(1, 9);
        Due.is("a logout", desk.gate().consume(), 100);
        desk.fill("xy").gate().cut(0, 2);
        return desk.fill(TEXT);
    }

    private static Desk with(String text) {
        return busy().fill(text);
    }

    private static void refused(String what, ToIntFunction<AssertionGate> call) {
        Twins.refused(what, RefusalTest::busy, call);
    }

    private static void none(String what, ToIntFunction<AssertionGate> call) {
        Twins.unchanged(what, RefusalTest::busy, call, -1);
    }

    /** Promises 2 and 3. */
    private static void keys() {
        for (int k : NO_ISSUERS) {
            refused("trust of issuer " + k, g -> Twins.said(g.trust(k, 70000, 7)));
            refused("key of issuer " + k, g -> Twins.said(g.key(k, 70000, 7)));
        }
        for (int n : NO_MODULI) {
            refused("trust with n " + n, g -> Twins.said(g.trust(0, n, 7)));
            refused("key with n " + n, g -> Twins.said(g.key(0, n, 7)));
        }
        for (int e : NO_EXPONENTS) {
            refused("trust with e " + e, g -> Twins.said(g.trust(0, 70000, e)));
            refused("key with d " + e, g -> Twins.said(g.key(0, 70000, e)));
        }
    }

    /** Promises 4 and 5. */
    private static void clockAndRequests() {
        refused("pass -1", g -> Twins.said(g.pass(-1)));
        refused("pass 1001", g -> Twins.said(g.pass(1001)));
        for (int k : NO_ISSUERS) {
            none("request to " + k, g -> g.request(k));
        }
        Twins.unchanged("the 31st request", RefusalTest::withAllRequests, g -> g.request(0), -1);
    }

    private static Desk withAllRequests() {
        Desk desk = busy();
        for (int r = 3; r < 30; r++) {
            Due.is("request", desk.gate().request(r % 4), r);
        }
        return desk;
    }

    /** Promises 6 and 7; issuer 3 has no private key. */
    private static void issuing() {
        for (int k : new int[] {-1, 4, 3}) {
            refused("issue by " + k, g -> Twins.said(g.issue(k, 2, 1, 10, 1)));
            refused("leave by " + k, g -> Twins.said(g.leave(k, 7)));
        }
        for (int wrong : new int[] {-1, 100}) {
            refused("issue to request " + wrong, g -> Twins.said(g.issue(0, wrong, 1, 10, 1)));
            refused("issue for user " + wrong, g -> Twins.said(g.issue(0, 2, wrong, 10, 1)));
            refused("leave of user " + wrong, g -> Twins.said(g.leave(0, wrong)));
        }
        refused("issue for -1", g -> Twins.said(g.issue(0, 2, 1, -1, 1)));
        refused("issue for 1000", g -> Twins.said(g.issue(0, 2, 1, 1000, 1)));
        refused("issue with how -1", g -> Twins.said(g.issue(0, 2, 1, 10, -1)));
        refused("issue with how 4", g -> Twins.said(g.issue(0, 2, 1, 10, 4)));
    }

    /** A text of 25 * times + more characters; the scrap has 25. */
    private static Desk longText(int times, int more) {
        Desk desk = busy().fill("abcdefghijklmnopqrstuvwxy");
        desk.gate().cut(0, 25);
        for (int i = 0; i < times; i++) {
            Due.yes("paste", desk.gate().paste(0));
        }
        for (int i = 0; i < more; i++) {
            Due.yes("write", desk.gate().write('z'));
        }
        return desk;
    }

    /** Promises 8 and 9. */
    private static void writing() {
        int size = TEXT.length();
        for (char c : NO_CODES) {
            refused("write " + (int) c, g -> Twins.said(g.write(c)));
            refused("set to " + (int) c, g -> Twins.said(g.set(0, c)));
        }
        Twins.refused("the 401st character", () -> longText(16, 0), g -> Twins.said(g.write('x')));
        refused("set at -1", g -> Twins.said(g.set(-1, 'x')));
        refused("set at the length", g -> Twins.said(g.set(size, 'x')));
    }

    /** Promises 10 and 11. */
    private static void cutting() {
        int size = TEXT.length();
        refused("cut from -1", g -> Twins.said(g.cut(-1, 1)));
        refused("cut from behind q", g -> Twins.said(g.cut(2, 1)));
        refused("cut to behind the length", g -> Twins.said(g.cut(0, size + 1)));
        refused("cut behind the length", g -> Twins.said(g.cut(size + 1, size + 1)));
        refused("cut before the text", g -> Twins.said(g.cut(-1, -1)));
        refused("paste at -1", g -> Twins.said(g.paste(-1)));
        refused("paste behind the length", g -> Twins.said(g.paste(size + 1)));
        Twins.refused("paste to 401", () -> longText(15, 1), g -> Twins.said(g.paste(0)));
        Twins.refused("paste to 425", () -> longText(16, 0), g -> Twins.said(g.paste(400)));
    }

    /** Promises 14 to 17: what is not there. */
    private static void looking() {
        int size = TEXT.length();
        none("at -1", g -> g.at(-1));
        none("at the length", g -> g.at(size));
        Twins.unchanged("elements of a banned text", () -> with("<a>&</a>"), g -> g.elements(), -1);
        Twins.unchanged("elements of no message", () -> with("<a></b>"), g -> g.elements(), -2);
        Twins.unchanged("digest of no message", () -> with("<a></b>"), g -> g.digest(0), -1);
        Twins.unchanged("seal of no message", () -> with("<a></b>"), g -> g.seal(0, 0), -1);
        none("digest of element -1", g -> g.digest(-1));
        none("digest of element 1", g -> g.digest(1));
        none("seal of element -1", g -> g.seal(0, -1));
        none("seal of element 1", g -> g.seal(0, 1));
        for (int i : new int[] {-1, 4, 3}) {
            none("seal by " + i, g -> g.seal(i, 0));
        }
    }

    /** Promises 19 and 20: no such session, no such place. */
    private static void sessions() {
        for (int s : new int[] {-1, 1}) {
            none("session " + s, g -> g.session(s));
            none("name of session " + s, g -> g.name(s, 0));
        }
        none("name at -1", g -> g.name(0, -1));
        none("name at 2", g -> g.name(0, 2));
    }

    /** What answers with what is there changes nothing either. */
    private static void questions() {
        Supplier<Desk> made = RefusalTest::busy;
        Twins.unchanged("length", made, g -> g.length(), TEXT.length());
        Twins.unchanged("at", made, g -> g.at(1), 'a');
        Twins.unchanged("elements", made, g -> g.elements(), 1);
        int digest = Oracle.read(TEXT).get(0).digest();
        Twins.unchanged("digest", made, g -> g.digest(0), digest);
        int seal = Oracle.power(digest, Desk.PRIVATE_EXPONENT, Desk.MODULUS);
        Twins.unchanged("seal", made, g -> g.seal(1, 0), seal);
        Twins.unchanged("session", made, g -> g.session(0), 1);
        Twins.unchanged("name", made, g -> g.name(0, 0), 'u');
        Twins.unchanged("outstanding", made, g -> g.outstanding(), 2);
    }

    private static String response(Consumer<Draft> change) {
        Draft draft = new Draft().asks("2");
        change.accept(draft);
        return draft.text();
    }

    private static void unaccepted(String text, int due) {
        Twins.unchanged("consume of " + text, () -> with(text), g -> g.consume(), due);
    }

    private static void unaccepted(Consumer<Draft> change, int due) {
        unaccepted(response(change), due);
    }

    /** Promise 18: a response, refused with each of the answers. */
    private static void responses() {
        Due.is("without a fault", with(response(d -> { })).gate().consume(), 1);
        unaccepted(response(d -> { }) + "&", -1);
        unaccepted(response(d -> { }) + " ", -2);
        unaccepted(d -> d.respExtra = "<x id=\"r0\"/>", -3);
        unaccepted(d -> d.assnExtra = "<cond/>", -4);
        unaccepted(d -> d.signed(false, false), -5);
        unaccepted(d -> d.offBy = 1, -6);
        unaccepted(d -> d.iss = "p1", -7);
        unaccepted(d -> d.to = "ac", -8);
        unaccepted(d -> d.stat = "no", -9);
        unaccepted(d -> d.asks("x"), -10);
        unaccepted(d -> d.asks("0"), -10);
        unaccepted(d -> d.asks("1"), -10);
        unaccepted(d -> d.asks("3"), -10);
        unaccepted(d -> d.aud = "s", -11);
        unaccepted(d -> d.nb = "9", -12);
        unaccepted(d -> d.noa = "2", -12);
        unaccepted(d -> d.rcp = "ac", -13);
        unaccepted(d -> d.confIrt = "02", -13);
        unaccepted(d -> d.confNoa = "2", -13);
        unaccepted(d -> d.assnId = "a0", -14);
        Twins.unchanged("a late response", RefusalTest::late, g -> g.consume(), -10);
        Twins.unchanged("a response to 20 sessions", RefusalTest::withAllSessions, g -> g.consume(), -15);
        Twins.unchanged("a response to 40 keys", () -> withAllKeys(true), g -> g.consume(), -15);
    }

    private static Desk late() {
        Desk desk = busy();
        desk.gate().pass(95);
        desk.gate().issue(0, 2, 1, 10, 3);
        return desk;
    }

    private static Desk withAllSessions() {
        Desk desk = busy();
        for (int s = 1; s < 20; s++) {
            Due.is("request", desk.gate().request(0), s + 2);
            Due.is("session", desk.takeIssued(0, s + 2, s, 1), s);
        }
        desk.gate().issue(0, 2, 7, 10, 1);
        return desk;
    }

    /** Two keys are seen at a busy gate. */
    private static Desk withAllKeys(boolean isResponse) {
        Desk desk = busy();
        for (int x = 2; x < 40; x++) {
            desk.gate().leave(1, 9);
            Due.is("logout", desk.gate().consume(), 100);
        }
        Due.yes("filled", isResponse ? desk.gate().issue(0, 2, 7, 10, 1) : desk.gate().leave(0, 7));
        return desk;
    }

    private static String logout(Consumer<LogoutDraft> change) {
        LogoutDraft draft = new LogoutDraft();
        draft.id = "o9";
        change.accept(draft);
        return draft.text();
    }

    /** Promise 18: a logout, refused with each of the answers that there are for it. */
    private static void logouts() {
        Due.is("without a fault", with(logout(d -> { })).gate().consume(), 101);
        unaccepted(logout(d -> { }) + "&", -1);
        unaccepted(logout(d -> { }) + " ", -2);
        unaccepted(logout(d -> d.extra = "<x id=\"o9\"/>"), -3);
        unaccepted(logout(d -> d.extra = "<name>u7</name>"), -4);
        unaccepted(logout(d -> d.isSigned = false), -5);
        unaccepted(logout(d -> d.offBy = 1), -6);
        unaccepted(logout(d -> d.to = "ac"), -8);
        unaccepted(logout(d -> d.id = "o1"), -14);
        unaccepted(logout(d -> d.id = "a0"), -14);
        Twins.unchanged("a logout to 40 keys", () -> withAllKeys(false), g -> g.consume(), -15);
    }

    public static void main(String[] args) {
        keys();
        clockAndRequests();
        issuing();
        writing();
        cutting();
        looking();
        sessions();
        questions();
        responses();
        logouts();
        Due.end();
    }
}
