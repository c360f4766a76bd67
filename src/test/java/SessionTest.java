/** Promises 18, 19 and 20: what is accepted, and the sessions that are made of it. */
public final class SessionTest {
    private static final int[] EXTREMES = {Integer.MIN_VALUE, Integer.MAX_VALUE};

    /** "no request, no session, nothing seen": session and name of a new object */
    private static void noSession() {
        Desk desk = Desk.ready(0, 100);
        for (int s = -1; s <= 20; s++) {
            Due.is("session " + s, desk.gate().session(s), -1);
            Due.is("name of " + s, desk.gate().name(s, 0), -1);
        }
    }

    /** "the request is not outstanding any more, and there is a new session, open, of the issuer and with the name" */
    private static void acceptedResponse() {
        for (int k = 0; k < 4; k++) {
            Desk desk = new Desk(0, 100).withIssuers();
            desk.gate().request(k);
            desk.gate().request(k);
            String before = "session of issuer " + k;
            Due.is(before, desk.takeIssued(k, 1, 42, 1), 0);
            Due.is(before + ": outstanding", desk.gate().outstanding(), 1);
            Due.is(before + ": issuer", desk.gate().session(0), 1 + k);
            Due.is(before + ": name", desk.nameOf(0), "u42");
            Due.is(before + ": no other", desk.gate().session(1), -1);
            Due.is(before + ": the same again", desk.gate().consume(), -10);
            Due.is(before + ": the other request", desk.takeIssued(k, 0, 43, 1), 1);
            Due.is(before + ": outstanding", desk.gate().outstanding(), 0);
        }
    }

    /** "Consumes the text, which stays." */
    private static void textStays() {
        Desk desk = Desk.ready(0, 100);
        String response = new Draft().text();
        Due.is("consume", desk.fill(response).gate().consume(), 0);
        Due.is("length", desk.gate().length(), response.length());
        for (int p = 0; p < response.length(); p += 2) {
            Due.is("at " + p, desk.gate().at(p), response.charAt(p));
        }
        String logout = new LogoutDraft().text();
        Desk other = Desk.ready(0, 100);
        Due.is("consume", other.fill(logout).gate().consume(), 100);
        Due.is("text", other.text(), logout);
    }

    /** "Session s: 1 + its issuer when it is open, 0 when it is ended; -1 if there was none." */
    private static void states() {
        Desk desk = new Desk(0, 100).withIssuers();
        for (int s = 0; s < 20; s++) {
            Due.is("request", desk.gate().request(s % 4), s);
            Due.is("session", desk.takeIssued(s % 4, s, s, 3), s);
            Due.is("session " + s, desk.gate().session(s), 1 + s % 4);
            Due.is("session " + (s + 1), desk.gate().session(s + 1), -1);
        }
        Due.is("session -1", desk.gate().session(-1), -1);
        Due.is("session 19", desk.gate().session(19), 4);
        Due.is("session 20", desk.gate().session(20), -1);
        desk.gate().leave(3, 19);
        Due.is("logout", desk.gate().consume(), 101);
        Due.is("session 19, ended", desk.gate().session(19), 0);
        Due.is("session 18", desk.gate().session(18), 3);
        for (int s : EXTREMES) {
            Due.is("session " + s, desk.gate().session(s), -1);
            Due.is("name of session " + s, desk.gate().name(s, 0), -1);
        }
        Due.is("name of 19, ended", desk.nameOf(19), "u19");
        Due.is("name of 18", desk.nameOf(18), "u18");
        Due.is("name of session 20", desk.gate().name(20, 0), -1);
        Due.is("name of session -1", desk.gate().name(-1, 0), -1);
    }

    /** "-1 if there was no such session or its name has none there", for the shortest and the longest name */
    private static void names() {
        for (String name : new String[] {"x", "xy", "1234567", "12345678", " ~>/='\"}"}) {
            Desk desk = Desk.ready(0, 100);
            Due.is("session", desk.fill(Take.responseText(d -> d.user = name)).gate().consume(), 0);
            for (int i = -1; i <= 9; i++) {
                int want = i >= 0 && i < name.length() ? name.charAt(i) : -1;
                Due.is("name " + name + " at " + i, desk.gate().name(0, i), want);
            }
            for (int i : EXTREMES) {
                Due.is("name " + name + " at " + i, desk.gate().name(0, i), -1);
            }
            Due.is("name of session 1", desk.gate().name(1, 0), -1);
        }
        Desk desk = Desk.ready(0, 100);
        desk.gate().request(0);
        Due.is("session 0", desk.takeIssued(0, 0, 7, 1), 0);
        Due.is("session 1", desk.takeIssued(0, 1, 77, 1), 1);
        Due.is("name of 0 does not reach that of 1", desk.gate().name(0, 8), -1);
        Due.is("name of 1", desk.nameOf(1), "u77");
    }

    /** The last session may have the longest name. */
    private static void lastName() {
        Desk desk = Desk.ready(0, 100);
        for (int s = 0; s < 19; s++) {
            desk.gate().request(0);
            Due.is("session", desk.takeIssued(0, s, s, 1), s);
        }
        String longest = Take.responseText(d -> d.asks("19").user = "12345678");
        Due.is("session 19", desk.fill(longest).gate().consume(), 19);
        Due.is("name of 19", desk.nameOf(19), "12345678");
        Due.is("name of 18", desk.nameOf(18), "u18");
        Due.is("name of 19 has none there", desk.gate().name(19, 8), -1);
    }

    /** The name outlives the text that it came from. */
    private static void namesStay() {
        Desk desk = Desk.ready(0, 100);
        Due.is("session", desk.takeIssued(0, 0, 42, 1), 0);
        desk.gate().clear();
        Due.is("name", desk.nameOf(0), "u42");
        desk.gate().leave(0, 42);
        Due.is("logout", desk.gate().consume(), 101);
        Due.is("name of an ended one", desk.nameOf(0), "u42");
    }

    /** "the open sessions of the issuer whose name is the word of its name child end" */
    private static void acceptedLogout() {
        Desk desk = Desk.ready(0, 100);
        desk.gate().request(1);
        desk.gate().request(0);
        desk.gate().request(0);
        Due.is("session 0", desk.takeIssued(0, 0, 7, 1), 0);
        Due.is("session 1", desk.takeIssued(1, 1, 7, 2), 1);
        Due.is("session 2", desk.takeIssued(0, 2, 77, 3), 2);
        Due.is("session 3", desk.takeIssued(0, 3, 7, 1), 3);
        desk.gate().leave(0, 8);
        Due.is("no such name", desk.gate().consume(), 100);
        desk.gate().leave(0, 7);
        Due.is("two end", desk.gate().consume(), 102);
        Due.is("again", desk.gate().consume(), -14);
        int[] states = {0, 2, 1, 0};
        for (int s = 0; s < 4; s++) {
            Due.is("session " + s, desk.gate().session(s), states[s]);
        }
        desk.gate().leave(0, 7);
        Due.is("ended ones do not end again", desk.gate().consume(), 100);
        desk.gate().leave(1, 77);
        Due.is("another issuer's session stays", desk.gate().consume(), 100);
        desk.gate().leave(1, 7);
        Due.is("one ends", desk.gate().consume(), 101);
        Due.is("session 2 is open", desk.gate().session(2), 1);
    }

    /** Names are compared to their ends: u1 is not u11, and 8 characters are 8. */
    private static void wholeNames() {
        String[] names = {"12345678", "1234567", "02345678", "12345670", "x"};
        for (String name : names) {
            Desk desk = Desk.ready(0, 100);
            Due.is("session", desk.fill(Take.responseText(d -> d.user = names[0])).gate().consume(), 0);
            int answer = desk.fill(Take.logoutText(d -> d.user = name)).gate().consume();
            Due.is("logout of " + name, answer, name.equals(names[0]) ? 101 : 100);
            Due.is("session", desk.gate().session(0), name.equals(names[0]) ? 0 : 1);
        }
    }

    /** "100 + the number of sessions that it ended": from none to all 20 */
    private static void allEnd() {
        for (int count = 0; count <= 20; count += 10) {
            Desk desk = Desk.ready(0, 100);
            for (int s = 0; s < count; s++) {
                desk.gate().request(0);
                Due.is("session", desk.takeIssued(0, s, 5, 1), s);
            }
            desk.gate().leave(0, 5);
            Due.is("logout of " + count, desk.gate().consume(), 100 + count);
            for (int s = 0; s < 20; s++) {
                Due.is("session " + s, desk.gate().session(s), s < count ? 0 : -1);
            }
        }
    }

    /** A logout needs no request, and no time. */
    private static void logoutAlone() {
        Desk desk = new Desk(0, 1).withIssuers();
        desk.gate().leave(2, 5);
        desk.gate().pass(1000);
        Due.is("logout", desk.gate().consume(), 100);
    }

    public static void main(String[] args) {
        noSession();
        acceptedResponse();
        textStays();
        states();
        names();
        lastName();
        namesStay();
        acceptedLogout();
        wholeNames();
        allEnd();
        logoutAlone();
        Due.end();
    }
}
