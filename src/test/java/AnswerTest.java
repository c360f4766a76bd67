import java.util.function.Consumer;

/** Promise 18: the answers -5 to -15 of consume, each just inside and just outside; -1 to -4 are in other tests. */
public final class AnswerTest {
    private static final int PRIME = 65521;

    /** "-5 there is no sig child (of the resp or the assn; of the out)" */
    private static void unsigned() {
        Due.is("no sig", Take.response(d -> d.signed(false, false)), -5);
        Due.is("a sig of the assn", Take.response(d -> d.signed(true, false)), 0);
        Due.is("a sig of the resp", Take.response(d -> d.signed(false, true)), 0);
        Due.is("sigs of both", Take.response(d -> d.signed(true, true)), 0);
        String sig = "<sig ref=\"zz\" v=\"1\"/>";
        Due.is("a sig of the subj", Take.response(d -> d.signed(false, false).subjExtra = sig), -5);
        Due.is("a sig deeper in the resp", Take.response(d -> d.signed(false, false).respExtra = "<x>" + sig + "</x>"), -5);
        Due.is("a sig in a comment", Take.response(d -> d.signed(false, false).assnExtra = "<!--" + sig + "-->"), -5);
        Due.is("another name", Take.response(d -> d.signed(false, false).assnExtra = "<sigx/><si/>"), -5);
        Due.is("no sig of the out", Take.logout(d -> d.isSigned = false), -5);
        Due.is("a sig of the out", Take.logout(d -> { }), 100);
        Due.is("a sig deeper in the out", Take.logout(d -> {
            d.isSigned = false;
            d.extra = "<x>" + sig + "</x>";
        }), -5);
    }

    /** "-6 one of these sig children is not valid" */
    private static void oneIsNotValid() {
        Consumer<Draft> both = d -> d.signed(true, true);
        Due.is("both are valid", Take.response(both), 0);
        Due.is("that of the assn is not", Take.response(both.andThen(d -> d.offBy = 1)), -6);
        Due.is("that of the resp is not", Take.response(both.andThen(d -> d.respOffBy = 1)), -6);
        Due.is("neither is", Take.response(both.andThen(d -> {
            d.offBy = 1;
            d.respOffBy = 1;
        })), -6);
        Due.is("covered by the resp alone", Take.altered(new Draft().signed(true, true), "<stat>ok", "<stat>no"), -6);
        Due.is("covered by both", Take.altered(new Draft().signed(true, true), "u7", "u8"), -6);
    }

    /** "the word of P's iss child is the name of a trusted issuer": p0 .. p3, and of these the trusted ones */
    private static void namesOfIssuers() {
        String[] wrong = {"p2", "p3", "p4", "p/", "p:", "p9", "p", "0", "p00", "p0 ", " p0", "q0", "o0", "P0", "0p", "p-1"};
        for (String word : wrong) {
            Due.is("assn of " + word, Take.response(d -> d.assnIss = word), -6);
            Due.is("resp of " + word, Take.response(d -> d.signed(false, true).iss = word), -6);
            Due.is("out of " + word, Take.logout(d -> d.iss = word), -6);
        }
        for (int k = 0; k < 4; k++) {
            Desk desk = new Desk(0, 100);
            desk.gate().key(k, Desk.MODULUS, Desk.PRIVATE_EXPONENT);
            desk.gate().request(k);
            Due.is("before trust in " + k, desk.takeIssued(k, 0, 1, 3), -6);
            desk.gate().trust((k + 1) % 4, Desk.MODULUS, Desk.OPEN_EXPONENT);
            Due.is("trust in another than " + k, desk.gate().consume(), -6);
            desk.gate().trust(k, Desk.MODULUS, Desk.OPEN_EXPONENT);
            Due.is("trust in " + k, desk.gate().consume(), 0);
            Due.is("session of " + k, desk.gate().session(0), 1 + k);
            desk.gate().leave(k, 1);
            Due.is("logout of " + k, desk.gate().consume(), 101);
        }
    }

    /** "the value of its ref is that of P's id" */
    private static void refs() {
        for (String other : new String[] {"", "z", "zzz", "zy", "yz", "ZZ", "r0", "zz "}) {
            Due.is("ref of the assn: " + other, Take.altered("ref=\"zz\"", "ref=\"" + other + "\""), -6);
        }
        for (String other : new String[] {"", "r", "r00", "r1", "zz"}) {
            Draft draft = new Draft().signed(false, true);
            Due.is("ref of the resp: " + other, Take.altered(draft, "ref=\"r0\"", "ref=\"" + other + "\""), -6);
        }
        for (String other : new String[] {"", "o", "o11", "o2"}) {
            Due.is("ref of the out: " + other, Take.alteredLogout("ref=\"o1\"", "ref=\"" + other + "\""), -6);
        }
    }

    /** A draft whose assn has the digest that is wanted. */
    private static Draft draftWithDigest(int wanted) {
        Draft draft = new Draft();
        String form = Oracle.read(draft.text()).get(3).canonical(false);
        String before = form.substring(0, form.indexOf(draft.user));
        String after = form.substring(form.indexOf(draft.user) + draft.user.length());
        for (int i = 0; i < 10000000 && Oracle.digestOf(before + draft.user + after) != wanted; i++) {
            draft.user = Integer.toString(i, 36);
        }
        Due.is("digest of a draft", Oracle.read(draft.text()).get(3).digest(), wanted);
        return draft;
    }

    private static int consumeWithV(Draft draft, int n, int e, int v) {
        Desk desk = new Desk(0, 100);
        Due.yes("trust", desk.gate().trust(0, n, e));
        desk.gate().request(0);
        return desk.fill(draft.text().replaceAll(" v=\"[0-9]*\"", " v=\"" + v + "\"")).gate().consume();
    }

    /** "v, the number in its v, is less than n with POWER(v, e, n) = digest of P" */
    private static void powers() {
        Due.is("v", Take.response(d -> d.offBy = 0), 0);
        Due.is("v + 1", Take.response(d -> d.offBy = 1), -6);
        Due.is("v - 1", Take.response(d -> d.offBy = -1), -6);
        Due.is("v + n", Take.response(d -> d.offBy = Desk.MODULUS), -6);
        Due.is("v + n in the resp", Take.response(d -> d.signed(false, true).respOffBy = Desk.MODULUS), -6);
        Due.is("v + n in the out", Take.logout(d -> d.offBy = Desk.MODULUS), -6);
        Due.is("v + 1 in the out", Take.logout(d -> d.offBy = 1), -6);
        Draft highest = draftWithDigest(PRIME - 1);
        Due.is("v is n - 1", consumeWithV(highest, PRIME, 1, PRIME - 1), 0);
        Due.is("v is n - 1, to an odd power", consumeWithV(highest, PRIME, 999999, PRIME - 1), 0);
        Due.is("v is n - 1, to an even power", consumeWithV(highest, PRIME, 1000000, PRIME - 1), -6);
        Due.is("v is n + n - 1", consumeWithV(highest, PRIME, 1, PRIME + PRIME - 1), -6);
        Draft zero = draftWithDigest(0);
        Due.is("v is 0", consumeWithV(zero, PRIME, 1, 0), 0);
        Due.is("v is n", consumeWithV(zero, PRIME, 1, PRIME), -6);
        Due.is("v is n, n the highest", consumeWithV(zero, 1000000, 1, 1000000), -6);
        Due.is("v below the highest n, POWER is 0", consumeWithV(zero, 1000000, 1000000, 999990), 0);
        Draft one = draftWithDigest(1);
        Due.is("highest n and e, v is n - 1", consumeWithV(one, 1000000, 1000000, 999999), 0);
        Due.is("highest n and e, v is n + 1", consumeWithV(one, 1000000, 1000000, 1000001), -6);
        Due.is("lowest n and e, v is 1", consumeWithV(one, PRIME, 1, 1), 0);
        Due.is("lowest n and e, v is 2", consumeWithV(one, PRIME, 1, 2), -6);
        Due.is("lowest n, e is 2, v is n - 1", consumeWithV(one, PRIME, 2, PRIME - 1), 0);
    }

    /** "(n, e are those that the issuer is trusted with)", and "may be set again" */
    private static void trustedWith() {
        Desk desk = Desk.ready(0, 100);
        desk.gate().trust(0, Desk.MODULUS, Desk.OPEN_EXPONENT + 2);
        Due.is("another e", desk.takeIssued(0, 0, 1, 1), -6);
        desk.gate().trust(0, Desk.MODULUS + 2, Desk.OPEN_EXPONENT);
        Due.is("another n", desk.gate().consume(), -6);
        desk.gate().key(0, Desk.MODULUS + 2, 1);
        Due.is("the private key is apart", desk.gate().consume(), -6);
        desk.gate().trust(0, Desk.MODULUS, Desk.OPEN_EXPONENT);
        Due.is("as it was sealed", desk.gate().consume(), 0);
    }

    /** "-7 (a response) the words of the resp's and the assn's iss are different" */
    private static void twoIssuers() {
        Due.is("p0 and p0", Take.response(d -> { }), 0);
        for (String word : new String[] {"p1", "p2", "p", "p00", "P0", "x"}) {
            Due.is("resp of " + word, Take.response(d -> d.iss = word), -7);
            Due.is("assn of " + word, Take.response(d -> d.signed(false, true).assnIss = word), -7);
        }
        Due.is("both signed", Take.response(d -> d.signed(true, true).iss = "p1"), -7);
        Due.is("both signed, the other way", Take.response(d -> d.signed(true, true).assnIss = "p1"), -7);
    }

    /** "-8 the value of to is not acs" */
    private static void addresses() {
        for (String to : new String[] {"", "ac", "acsx", "xcs", "axs", "acx", "ACS", " acs", "acs ", "sp"}) {
            Due.is("a response to " + to, Take.response(d -> d.to = to), -8);
            Due.is("a logout to " + to, Take.logout(d -> d.to = to), -8);
        }
    }

    /** "-9 the word of stat is not ok" */
    private static void stats() {
        for (String stat : new String[] {"o", "k", "okx", "xk", "ox", "OK", " ok", "ok ", "ko"}) {
            Due.is("stat " + stat, Take.response(d -> d.stat = stat), -9);
        }
    }

    /** "-10 the irt of the resp is no number" */
    private static void irtIsNoNumber() {
        for (String irt : new String[] {"", "x", "/", ":", " 0", "0 ", "-0", "+0", "0x", "0000000000"}) {
            Due.is("irt '" + irt + "'", Take.response(d -> d.asks(irt)), -10);
        }
        for (String irt : new String[] {"0", "00", "000000000"}) {
            Due.is("irt '" + irt + "'", Take.response(d -> d.asks(irt)), 0);
        }
    }

    /** "or not that of a request that is outstanding": one that was made, is not answered and has not run out */
    private static void irtOfNoRequest() {
        Due.is("request 0 of 1", Take.response(d -> d.asks("0")), 0);
        Due.is("request 1 of 1", Take.response(d -> d.asks("1")), -10);
        Due.is("the highest", Take.response(d -> d.asks("999999999")), -10);
        for (int r = 28; r < 32; r++) {
            Desk desk = Desk.ready(0, 100);
            for (int made = 1; made < 30; made++) {
                Due.is("request", desk.gate().request(0), made);
            }
            Due.is("request " + r + " of 30", desk.takeIssued(0, r, 1, 1), r < 30 ? 0 : -10);
            Due.is("answered again", desk.takeIssued(0, r, 1, 1), -10);
        }
        Due.is("no request at all", new Desk(0, 100).withIssuers().takeIssued(0, 0, 1, 1), -10);
    }

    /** "or the clock is at least that of its making + LIFE" */
    private static void irtRunsOut() {
        int[] lives = {1, 2, 100, 999, 1000};
        for (int life : lives) {
            for (int late = -1; late <= 1; late++) {
                Desk desk = new Desk(0, life).withIssuers();
                desk.gate().pass(9);
                desk.gate().request(0);
                desk.gate().pass(Math.min(1000, life + late));
                desk.gate().pass(Math.max(0, life + late - 1000));
                Due.is("life " + life + ", " + late + " late", desk.takeIssued(0, 0, 1, 1), late < 0 ? 0 : -10);
            }
        }
    }

    /** "and went to the issuer that the iss names" */
    private static void irtToAnother() {
        for (int k = 0; k < 4; k++) {
            for (int to = 0; to < 4; to++) {
                Desk desk = new Desk(0, 100).withIssuers();
                desk.gate().request(to);
                Due.is("request to " + to + ", response of " + k, desk.takeIssued(k, 0, 1, 3), k == to ? 0 : -10);
                Due.is("outstanding", desk.gate().outstanding(), k == to ? 0 : 1);
            }
        }
    }

    /** "-11 aud is not sp" */
    private static void audiences() {
        for (String aud : new String[] {"", "s", "p", "spx", "xp", "sx", "SP", " sp", "sp ", "acs"}) {
            Due.is("aud " + aud, Take.response(d -> d.aud = aud), -11);
        }
    }

    private static int consumeAt(int skew, int clock, Consumer<Draft> change) {
        Draft draft = new Draft();
        draft.noa = "999999999";
        draft.confNoa = "999999999";
        change.accept(draft);
        Desk desk = Desk.ready(skew, 1000);
        desk.gate().pass(clock);
        return desk.fill(draft.text()).gate().consume();
    }

    private static String digits(int n) {
        return String.valueOf(n);
    }

    /** "-12 nb is more than clock + SKEW, or noa is not more than clock - SKEW (those of cond)"; -13 for conf's noa */
    private static void times() {
        int[] clocks = {0, 1, 99, 100, 101, 999};
        int[] skews = {0, 1, 2, 99, 100};
        for (int clock : clocks) {
            for (int skew : skews) {
                String when = " at " + clock + " with skew " + skew;
                int latest = clock + skew;
                Due.is("nb " + latest + when, consumeAt(skew, clock, d -> d.nb = digits(latest)), 0);
                Due.is("nb " + (latest + 1) + when, consumeAt(skew, clock, d -> d.nb = digits(latest + 1)), -12);
                int earliest = Math.max(0, clock - skew + 1);
                Due.is("noa " + earliest + when, consumeAt(skew, clock, d -> d.noa = digits(earliest)), 0);
                Due.is("noa of conf " + earliest + when, consumeAt(skew, clock, d -> d.confNoa = digits(earliest)), 0);
                for (int over = clock - skew; over >= 0; over -= 1 + over / 2) {
                    String noa = digits(over);
                    Due.is("noa " + over + when, consumeAt(skew, clock, d -> d.noa = noa), -12);
                    Due.is("noa of conf " + over + when, consumeAt(skew, clock, d -> d.confNoa = noa), -13);
                }
            }
        }
    }

    /** "SKEW is the constructor's, if that is 0 .. 100, else 0" */
    private static void skews() {
        int[][] skews = {{0, 0}, {1, 1}, {99, 99}, {100, 100}, {101, 0}, {-1, 0}, {-100, 0}, {1000, 0},
            {Integer.MAX_VALUE, 0}, {Integer.MIN_VALUE, 0}};
        for (int[] skew : skews) {
            String given = " with skew " + skew[0];
            Due.is("nb" + given, consumeAt(skew[0], 500, d -> d.nb = digits(500 + skew[1])), 0);
            Due.is("nb + 1" + given, consumeAt(skew[0], 500, d -> d.nb = digits(501 + skew[1])), -12);
            Due.is("noa" + given, consumeAt(skew[0], 500, d -> d.noa = digits(501 - skew[1])), 0);
            Due.is("noa - 1" + given, consumeAt(skew[0], 500, d -> d.noa = digits(500 - skew[1])), -12);
        }
    }

    /** "-13 rcp is not acs, or the irt of conf is not the same value as that of the resp" */
    private static void confirmation() {
        for (String rcp : new String[] {"", "ac", "acsx", "xcs", "axs", "acx", "ACS", " acs", "acs ", "sp"}) {
            Due.is("rcp " + rcp, Take.response(d -> d.rcp = rcp), -13);
        }
        for (String irt : new String[] {"", "00", "1", "x", "0 ", " 0", "000000000"}) {
            Due.is("irt of conf '" + irt + "'", Take.response(d -> d.confIrt = irt), -13);
        }
        Due.is("irt of the resp is longer", Take.response(d -> d.irt = "00"), -13);
        Due.is("both are longer", Take.response(d -> d.asks("00")), 0);
    }

    /** A gate at which requests 0 and 1 went to issuer 0, and 'zz' is the id of an assn that was accepted. */
    private static Desk withOneSeen() {
        Desk desk = Desk.ready(0, 100);
        desk.gate().request(0);
        Due.is("accepted", desk.fill(new Draft().text()).gate().consume(), 0);
        return desk;
    }

    /** "-14 the id of the assn is seen", "-14 its id is seen" */
    private static void seenIds() {
        for (String id : new String[] {"zz", "z", "zzz", "zy", "yz", "r0"}) {
            int response = withOneSeen().fill(Take.responseText(d -> {
                d.asks("1").id = "rr";
                d.assnId = id;
            })).gate().consume();
            Due.is("assn " + id, response, id.equals("zz") ? -14 : 1);
        }
        Due.is("out zz", withOneSeen().fill(Take.logoutText(d -> d.id = "zz")).gate().consume(), -14);
        Due.is("out zzz", withOneSeen().fill(Take.logoutText(d -> d.id = "zzz")).gate().consume(), 101);
        Due.is("the id of a resp is not kept", withOneSeen().fill(Take.logoutText(d -> d.id = "r0")).gate().consume(), 101);
        Desk desk = Desk.ready(0, 100);
        Due.is("a logout", desk.fill(Take.logoutText(d -> d.id = "zz")).gate().consume(), 100);
        Due.is("the same", desk.gate().consume(), -14);
        Due.is("another with its id", desk.fill(Take.logoutText(d -> {
            d.id = "zz";
            d.user = "u8";
        })).gate().consume(), -14);
        Desk other = Desk.ready(0, 100);
        Due.is("a logout", other.fill(Take.logoutText(d -> d.id = "zz")).gate().consume(), 100);
        Due.is("an assn with its id", other.fill(new Draft().text()).gate().consume(), -14);
    }

    /** A key that is seen is kept with all of its 8 characters. */
    private static void longestSeen() {
        String[] ids = {"12345678", "1234567", "02345678", "12345670"};
        for (String id : ids) {
            Desk desk = Desk.ready(0, 100);
            desk.gate().request(0);
            Due.is("accepted", desk.fill(Take.responseText(d -> d.assnId = ids[0])).gate().consume(), 0);
            Due.is("out " + id, desk.fill(Take.logoutText(d -> d.id = id)).gate().consume(), id.equals(ids[0]) ? -14 : 101);
        }
    }

    /** A refused message is not seen. */
    private static void refusedIsNotSeen() {
        Desk desk = Desk.ready(0, 100);
        Due.is("refused", desk.fill(Take.responseText(d -> d.stat = "no")).gate().consume(), -9);
        Due.is("accepted", desk.fill(new Draft().text()).gate().consume(), 0);
        Desk other = Desk.ready(0, 100);
        Due.is("refused", other.fill(Take.logoutText(d -> d.to = "no")).gate().consume(), -8);
        Due.is("accepted", other.fill(new LogoutDraft().text()).gate().consume(), 100);
    }

    private static Desk withSessions(int count) {
        Desk desk = Desk.ready(0, 100);
        for (int s = 0; s < count; s++) {
            Due.is("request", desk.gate().request(0), s + 1);
            Due.is("session", desk.takeIssued(0, s, s, 2), s);
        }
        return desk;
    }

    /** "-15 there are 20 sessions"; ended ones count, and a logout is not refused for them */
    private static void mostSessions() {
        Due.is("the 20th session", withSessions(19).takeIssued(0, 19, 1, 2), 19);
        Desk full = withSessions(20);
        Due.is("the 21st session", full.takeIssued(0, 20, 1, 2), -15);
        Due.is("the request stays", full.gate().outstanding(), 1);
        full.gate().leave(0, 19);
        Due.is("a logout with 20 sessions", full.gate().consume(), 101);
        Due.is("ended ones count", full.takeIssued(0, 20, 1, 2), -15);
        Due.is("no session", full.gate().session(20), -1);
    }

    private static Desk withKeys(int count) {
        Desk desk = Desk.ready(0, 100);
        for (int x = 0; x < count; x++) {
            desk.gate().leave(0, 1);
            Due.is("logout", desk.gate().consume(), 100);
        }
        return desk;
    }

    /** "or 40 keys seen", "-15 40 keys are seen" */
    private static void mostKeys() {
        Due.is("a response with 39 keys", withKeys(39).takeIssued(0, 0, 1, 1), 0);
        Desk full = withKeys(40);
        Due.is("a response with 40 keys", full.takeIssued(0, 0, 1, 1), -15);
        Due.is("the request stays", full.gate().outstanding(), 1);
        Due.is("no session", full.gate().session(0), -1);
        full.gate().leave(0, 1);
        Due.is("a logout with 40 keys", full.gate().consume(), -15);
        Desk other = withKeys(39);
        Due.is("the 40th key", other.takeIssued(0, 0, 1, 1), 0);
        other.gate().leave(0, 1);
        Due.is("a logout with 40 keys", other.gate().consume(), -15);
        Due.is("the session stays", other.gate().session(0), 1);
        String longest = Take.logoutText(d -> d.id = "12345678");
        Desk last = withKeys(39).fill(longest);
        Due.is("the 40th key is the longest", last.gate().consume(), 100);
        Due.is("it is seen", last.gate().consume(), -14);
        for (int x = 0; x < 40; x += 13) {
            Desk desk = withKeys(40);
            String id = "o" + x;
            Due.is("seen is " + id, desk.fill(Take.logoutText(d -> d.id = id)).gate().consume(), -14);
        }
    }

    /** A signed assertion that was moved aside makes no session for the one in its place. */
    private static void wrapping() {
        String text = new Draft().text();
        int from = text.indexOf("<assn");
        int to = text.indexOf("</assn>") + 7;
        String signed = text.substring(from, to);
        String forged = signed.replace("u7", "u8").replace("\"zz\"", "\"yy\"");
        String bare = forged.replaceAll("<sig.*?/>", "");
        Due.is("forged", Take.text(text.replace(signed, forged)), -6);
        Due.is("aside, unsigned in its place", Take.text(text.replace(signed, "<x>" + signed + "</x>" + bare)), -5);
        Due.is("the same id", Take.text(text.replace(signed, "<x>" + signed + "</x>" + bare.replace("yy", "zz"))), -3);
        String inside = bare.replace("</assn>", "<x>" + signed + "</x></assn>");
        Due.is("inside the forged", Take.text(text.replace(signed, inside)), -5);
    }

    /** What the canonical form leaves out may be altered behind the sig's back. */
    private static void coveredForm() {
        Due.is("covered text", Take.altered("<name>u7", "<name>u8"), -6);
        Due.is("covered text of a logout", Take.alteredLogout("u7", "u8"), -6);
        Due.is("covered address of a logout", Take.alteredLogout("acs", "sp"), -6);
        Due.is("text outside", Take.altered("</stat>", "</stat>x"), 0);
        Due.is("a comment", Take.altered("</iss><subj>", "</iss><!-- x --><subj>"), 0);
        Due.is("another order", Take.altered("aud=\"sp\" nb=\"0\"", "nb=\"0\"   aud=\"sp\""), 0);
        Due.is("an empty tag written out", Take.altered("rcp=\"acs\"/>", "rcp=\"acs\"></conf >"), 0);
    }

    public static void main(String[] args) {
        unsigned();
        oneIsNotValid();
        namesOfIssuers();
        refs();
        powers();
        trustedWith();
        twoIssuers();
        addresses();
        stats();
        irtIsNoNumber();
        irtOfNoRequest();
        irtRunsOut();
        irtToAnother();
        audiences();
        times();
        skews();
        confirmation();
        seenIds();
        longestSeen();
        refusedIsNotSeen();
        mostSessions();
        mostKeys();
        wrapping();
        coveredForm();
        Due.end();
    }
}
