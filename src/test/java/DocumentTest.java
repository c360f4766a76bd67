/**
 * The terms that the other tests work out with the oracle, held against the document alone: the canonical forms were
 * written by hand from the document's words, and the digests and powers that follow from them stand here as a few lines
 * of script outside the project worked them out. Nothing here asks the oracle, or the class, what is due.
 */
public final class DocumentTest {
    // With the modulus 65521 and the exponent 1 a POWER is the digest itself, so a v can be read as a digest.
    private static final int PLAIN = 65521;

    private static final String RESP = """
        <resp id="r" to="acs" irt="0"><iss>p0</iss><stat>ok</stat><assn id="a"><iss>p0</iss>\
        <cond aud="sp" nb="0" noa="1"/><subj><name>ann</name><conf irt="0" rcp="acs" noa="1"/></subj>\
        <sig ref="a" v="V"/></assn></resp>""";
    private static final int RESP_V = 20987;

    private static final String OUT = """
        <out id="o" to="acs"><iss>p0</iss><name>ann</name><sig ref="o" v="V"/></out>""";
    private static final int OUT_V = 37112;

    /** What becomes of a part of the text, what v is to say then, and what consume is to answer. */
    private record Step(int due, String from, String to, int v) {
    }

    private static String put(String text, String from, String to) {
        Due.yes("the text has " + from, text.contains(from));
        return text.replace(from, to);
    }

    private static String signed(String text, int v) {
        return text.replace("\"V\"", "\"" + v + "\"");
    }

    private static Desk trusting() {
        Desk desk = new Desk(0, 100);
        desk.gate().trust(0, PLAIN, 1);
        desk.gate().trust(1, PLAIN, 1);
        desk.gate().request(0);
        return desk;
    }

    private static int taken(String text) {
        return trusting().fill(text).gate().consume();
    }

    private static void eachTaken(String base, Step... steps) {
        for (Step step : steps) {
            String text = signed(put(base, step.from, step.to), step.v);
            Due.is("consume of " + text, taken(text), step.due);
        }
    }

    /** "a session is made only from the element that a valid signature covers" */
    private static void onlyWhatIsCovered() {
        Desk desk = trusting().fill(signed(RESP, RESP_V));
        Due.is("the signed assn", desk.gate().consume(), 0);
        Due.is("its session", desk.gate().session(0), 1);
        Due.is("its name", desk.nameOf(0), "ann");
        String signed = signed(RESP, RESP_V);
        Due.is("another name", taken(put(signed, "ann", "bob")), -6);
        Due.is("a comment behind the name", taken(put(signed, "ann", "ann<!-- -->")), -4);
        String other = """
            <resp id="r" to="acs" irt="0"><iss>p0</iss><stat>ok</stat><assn id="b"><iss>p0</iss>\
            <cond aud="sp" nb="0" noa="1"/><subj><name>bob</name><conf irt="0" rcp="acs" noa="1"/></subj>SIG</assn>\
            <x><assn id="a"><iss>p0</iss><cond aud="sp" nb="0" noa="1"/><subj><name>ann</name>\
            <conf irt="0" rcp="acs" noa="1"/></subj></assn></x></resp>""";
        Due.is("the signed one moved away", taken(put(other, "SIG", "")), -5);
        String moved = signed("<sig ref=\"a\" v=\"V\"/>", RESP_V);
        Due.is("with its sig left behind", taken(put(other, "SIG", moved)), -6);
        Due.is("with its sig for the other", taken(put(other, "SIG", put(moved, "\"a\"", "\"b\""))), -6);
        Due.is("with its id for the other", taken(put(put(other, "SIG", moved), "id=\"b\"", "id=\"a\"")), -3);
    }

    /** "for a request that is outstanding, in time, at the right address and for the first time" */
    private static void andOnlyThen() {
        Desk early = new Desk(0, 100);
        early.gate().trust(0, PLAIN, 1);
        early.fill(signed(RESP, RESP_V));
        Due.is("before its request", early.gate().consume(), -10);
        early.gate().request(0);
        Due.is("behind its request", early.gate().consume(), 0);
        Due.is("again", early.gate().consume(), -10);
        Desk late = trusting().fill(signed(RESP, RESP_V));
        late.gate().pass(1);
        Due.is("noa is not more than the clock", late.gate().consume(), -12);
        Due.is("another address", taken(signed(put(RESP, "to=\"acs\"", "to=\"acx\""), RESP_V)), -8);
        Desk again = trusting();
        again.gate().request(0);
        Due.is("the first time", again.fill(signed(RESP, RESP_V)).gate().consume(), 0);
        String second = signed(put(RESP, "irt=\"0\"", "irt=\"1\""), 65282);
        Due.is("the second time, to another request", again.fill(second).gate().consume(), -14);
        Due.is("which stays outstanding", again.gate().outstanding(), 1);
    }

    private static void hasDigest(String text, int k, int due) {
        Due.is("digest " + k + " of " + text, new Desk(0, 100).fill(text).gate().digest(k), due);
    }

    /**
     * "It is 0 at first, and for each character with the code c it becomes (digest * 257 + c) mod 65521"; the canonical
     * form that the number was worked out from stands behind it.
     */
    private static void digests() {
        // 60, 15517, 56671 (3987931 - 60 * 65521), 18845, 60179, 3144, 21818
        hasDigest("<a/>", 0, 21818); // <a></a>
        hasDigest("<a></a>", 0, 21818); // <a></a>
        hasDigest("<a ></a >", 0, 21818); // <a></a>
        hasDigest("<a>b</a>", 0, 60490); // <a>b</a>
        hasDigest("<a> ~ </a>", 0, 31531); // <a> ~ </a>
        hasDigest("<z>c<!-- d -->e</z>", 0, 18265); // <z>ce</z>
        hasDigest("<z y=\"2\"  x=\"1\" />", 0, 59760); // <z x="1" y="2"></z>
        hasDigest("<z b=\"\" ab=\"4\" aa=\"3\" a=\"'\"/>", 0, 10650); // <z a="'" aa="3" ab="4" b=""></z>
        hasDigest("<p>q<r t=\"v\" s=\"u\">w</r>x</p>", 0, 65067); // <p>q<r s="u" t="v">w</r>x</p>
        hasDigest("<p>q<r t=\"v\" s=\"u\">w</r>x</p>", 1, 42198); // <r s="u" t="v">w</r>
        hasDigest("<p>q<sig>w</sig>x</p>", 0, 1335); // <p>qx</p>
        hasDigest("<p>q<sig>w</sig>x</p>", 1, 49365); // <sig>w</sig>
        hasDigest("<p>q<r><sig/></r>x</p>", 0, 45150); // <p>q<r><sig></sig></r>x</p>
        hasDigest("<p>q<r><sig/></r>x</p>", 1, 63614); // <r></r>
        hasDigest("<p>q<sig><sig/></sig>x</p>", 1, 29986); // <sig></sig>
        hasDigest(signed(RESP, 0), 0, 1644);
        hasDigest(signed(RESP, 0), 3, 20987);
        hasDigest(signed(OUT, 0), 0, 37112);
    }

    /** "POWER(digest of element k of the text, d, n)" */
    private static void seals() {
        Desk desk = new Desk(0, 100).fill("<z y=\"2\"  x=\"1\" />");
        desk.gate().key(0, 67591, 26829);
        desk.gate().key(1, 72899, 62023);
        desk.gate().key(2, 1000000, 2);
        desk.gate().key(3, PLAIN, 1000000);
        Due.is("seal by 0", desk.gate().seal(0, 0), 36524);
        Due.is("seal by 1", desk.gate().seal(1, 0), 32947);
        Due.is("seal by 2", desk.gate().seal(2, 0), 257600);
        Due.is("seal by 3", desk.gate().seal(3, 0), 51662);
    }

    private static final String ISSUED = """
        <resp id="r3" irt="42" to="acs"><iss>p1</iss><stat>ok</stat><assn id="a3"><iss>p1</iss><subj><name>u80</name>\
        <conf irt="42" noa="1016" rcp="acs"/></subj><cond aud="sp" nb="1007" noa="1016"/>ASIG</assn>RSIG</resp>""";
    private static final String ASIG = """
        <sig ref="a3" v="60583"/>""";
    private static final String RSIG_ALONE = """
        <sig ref="r3" v="42139"/>""";
    private static final String RSIG_BEHIND_ASIG = """
        <sig ref="r3" v="30989"/>""";

    /** Three texts were filled before, and the clock is 1007. */
    private static Desk issuing() {
        Desk desk = new Desk(0, 100);
        desk.gate().key(1, 72899, 62023);
        desk.gate().leave(1, 0);
        desk.gate().issue(1, 0, 0, 0, 0);
        desk.gate().issue(1, 0, 0, 0, 4);
        desk.gate().leave(1, 1);
        desk.gate().pass(1000);
        desk.gate().pass(7);
        return desk;
    }

    private static void issued(int how, String asig, String rsig) {
        Desk desk = issuing();
        Due.yes("issue", desk.gate().issue(1, 42, 80, 9, how));
        Due.is("issued with " + how, desk.text(), ISSUED.replace("ASIG", asig).replace("RSIG", rsig));
    }

    /** "ASIG is nothing if how is 0 or 2, else .."; "then RSIG is nothing if how is 0 or 1, else .." */
    private static void issuedTexts() {
        issued(0, "", "");
        issued(1, ASIG, "");
        issued(2, "", RSIG_ALONE);
        issued(3, ASIG, RSIG_BEHIND_ASIG);
        Desk desk = issuing();
        Due.yes("leave", desk.gate().leave(1, 80));
        Due.is("the logout", desk.text(), """
            <out id="o3" to="acs"><iss>p1</iss><name>u80</name><sig ref="o3" v="40365"/></out>""");
    }

    /** "A sig child of an element P is VALID if .." */
    private static void validSigs() {
        eachTaken(RESP,
            new Step(0, "", "", RESP_V),
            new Step(-6, "", "", RESP_V + 1),
            new Step(-6, "", "", RESP_V + PLAIN),
            new Step(-6, "ref=\"a\"", "ref=\"r\"", RESP_V),
            new Step(-6, "p0", "p2", 14454),
            new Step(-6, "p0", "p4", 7921),
            new Step(-10, "p0", "p1", 50481));
        String respSigned = put(put(RESP, "<sig ref=\"a\" v=\"V\"/>", ""), "</resp>", "<sig ref=\"r\" v=\"V\"/></resp>");
        eachTaken(respSigned,
            new Step(0, "", "", 64783),
            new Step(-6, "", "", RESP_V),
            new Step(-6, "ref=\"r\"", "ref=\"a\"", 64783),
            new Step(-9, "ok", "no", 4972));
        String both = put(signed(RESP, RESP_V), "</resp>", "<sig ref=\"r\" v=\"V\"/></resp>");
        eachTaken(both,
            new Step(0, "", "", 48953),
            new Step(-6, "", "", 64783),
            new Step(-6, "<sig ref=\"a\"", "<sig ref=\"b\"", 9819));
        eachTaken(OUT,
            new Step(100, "", "", OUT_V),
            new Step(-6, "", "", OUT_V - 1),
            new Step(-6, "p0", "p3", 42841),
            new Step(-6, "ref=\"o\"", "ref=\"\"", OUT_V));
    }

    /** What a signature covers is the canonical form: all that it leaves out may be otherwise in the text. */
    private static void sameCanonicalForm() {
        eachTaken(RESP,
            new Step(0, "nb=\"0\" noa=\"1\"/>", " noa=\"1\"  nb=\"0\" ></cond >", RESP_V),
            new Step(0, "<subj>", "<!-- any - thing --><subj  >", RESP_V),
            new Step(0, "<sig ", "<sig x=\"y\" ", RESP_V),
            new Step(0, "<sig ref=\"a\" v=\"V\"/>", "<sig v=\"V\" ref=\"a\">more<x/></sig>", RESP_V),
            new Step(-6, "<subj>", " <subj>", RESP_V),
            new Step(-6, "<cond ", "<cond x=\"\" ", RESP_V),
            new Step(-6, "noa=\"1\"/>", "noa=\"01\"/>", RESP_V),
            new Step(0, "<subj>", " <subj>", 7767),
            new Step(0, "<cond ", "<cond x=\"\" ", 9809),
            new Step(0, "noa=\"1\"/>", "noa=\"01\"/>", 50347));
    }

    /** "-3 two of its elements have an attribute id of the same value", "there is no < among them", KEY and NUMBER */
    private static void shapes() {
        eachTaken(RESP,
            new Step(-3, "<stat>", "<x id=\"\"/><y id=\"\"/><stat>", RESP_V),
            new Step(0, "<stat>", "<x id=\"\"/><y x=\"\"/><stat>", RESP_V),
            new Step(-4, "ann", "a<!---->", 39609),
            new Step(0, "ann", "a!-----a", 54992),
            new Step(-4, "ann", "a!------a", 53801),
            new Step(-4, "id=\"r\"", "id=\"\"", RESP_V),
            new Step(0, "id=\"r\"", "id=\"rrrrrrrr\"", RESP_V),
            new Step(-4, "id=\"r\"", "id=\"rrrrrrrrr\"", RESP_V),
            new Step(0, "noa=\"1\"", "noa=\"999999999\"", 3407),
            new Step(-4, "noa=\"1\"", "noa=\"0000000001\"", 47027));
    }

    /** The words of CONSUMING from -9 to -13, each just inside and just outside, the clock being 0 and SKEW 0. */
    private static void terms() {
        eachTaken(RESP,
            new Step(-7, "<iss>p0</iss><stat>", "<iss>p1</iss><stat>", RESP_V),
            new Step(-8, "to=\"acs\"", "to=\"\"", RESP_V),
            new Step(-9, "ok", "OK", RESP_V),
            new Step(-10, "to=\"acs\" irt=\"0\"", "to=\"acs\" irt=\"\"", RESP_V),
            new Step(-10, "to=\"acs\" irt=\"0\"", "to=\"acs\" irt=\"1\"", RESP_V),
            new Step(-10, "to=\"acs\" irt=\"0\"", "to=\"acs\" irt=\"x\"", RESP_V),
            new Step(-13, "to=\"acs\" irt=\"0\"", "to=\"acs\" irt=\"00\"", RESP_V),
            new Step(0, "irt=\"0\"", "irt=\"00\"", 7800),
            new Step(-11, "aud=\"sp\"", "aud=\"sq\"", 8395),
            new Step(-12, "nb=\"0\"", "nb=\"1\"", 43735),
            new Step(-12, "nb=\"0\" noa=\"1\"", "nb=\"0\" noa=\"0\"", 43954),
            new Step(-13, "rcp=\"acs\"", "rcp=\"sp\"", 10638),
            new Step(-13, "irt=\"0\" rcp", "irt=\"1\" rcp", 65282),
            new Step(-13, "rcp=\"acs\" noa=\"1\"", "rcp=\"acs\" noa=\"0\"", 53712));
    }

    /** "nb is more than clock + SKEW, or noa is not more than clock - SKEW", the clock being 10 and SKEW 3 */
    private static void termsWithSkew() {
        int[][] cases = {{13, 8, 8, 0}, {14, 8, 8, -12}, {13, 7, 8, -12}, {13, 8, 7, -13}};
        int[] vs = {16039, 38787, 39006, 48764};
        for (int i = 0; i < cases.length; i++) {
            Desk desk = new Desk(3, 100);
            desk.gate().trust(0, PLAIN, 1);
            desk.gate().request(0);
            desk.gate().pass(10);
            String cond = "nb=\"" + cases[i][0] + "\" noa=\"" + cases[i][1] + "\"";
            String text = put(RESP, "nb=\"0\" noa=\"1\"", cond);
            text = put(text, "rcp=\"acs\" noa=\"1\"", "rcp=\"acs\" noa=\"" + cases[i][2] + "\"");
            Due.is("consume of " + text, desk.fill(signed(text, vs[i])).gate().consume(), cases[i][3]);
        }
    }

    /** "SKEW is the constructor's, if that is 0 .. 100, else 0", the clock being 200 */
    private static void skews() {
        int[][] cases = {{100, 101, 0}, {100, 100, -12}, {101, 200, -12}, {101, 201, 0}, {-1, 200, -12}, {-1, 201, 0}};
        int[] vs = {42233, 14628, 44406, 6490, 44406, 6490};
        for (int i = 0; i < cases.length; i++) {
            Desk desk = new Desk(cases[i][0], 201);
            desk.gate().trust(0, PLAIN, 1);
            desk.gate().request(0);
            desk.gate().pass(200);
            String text = put(RESP, "noa=\"1\"", "noa=\"" + cases[i][1] + "\"");
            int answer = desk.fill(signed(text, vs[i])).gate().consume();
            Due.is("SKEW " + cases[i][0] + ", noa " + cases[i][1], answer, cases[i][2]);
        }
    }

    /** Request 0 is outstanding, and 40 keys are seen: o0 to o39. */
    private static Desk fullOfKeys() {
        Desk desk = trusting();
        desk.gate().key(0, PLAIN, 1);
        for (int i = 0; i < 40; i++) {
            desk.gate().leave(0, 0);
            Due.is("logout " + i, desk.gate().consume(), 100);
        }
        return desk;
    }

    private static void eachMended(String faulty, Step... steps) {
        String text = faulty;
        for (Step step : steps) {
            text = put(text, step.from, step.to);
            Desk desk = fullOfKeys().fill(signed(text, step.v));
            Due.is("consume of " + text, desk.gate().consume(), step.due);
            Due.is("outstanding behind it", desk.gate().outstanding(), 1);
            Due.is("sessions behind it", desk.gate().session(0), -1);
            Due.is("again", desk.gate().consume(), step.due);
        }
    }

    /** "the first that applies is the answer": every fault is there at first, and they are mended one by one. */
    private static void firstThatApplies() {
        String faulty = """
            <resp id="o0" to="x" irt="7"><iss>p1</iss><stat>no</stat><stat/><assn id="o0"><iss>p0</iss>\
            <cond aud="x" nb="9" noa="1"/><subj><name>ann</name><conf irt="0" rcp="x" noa="1"/></subj></assn></resp>&""";
        eachMended(faulty,
            new Step(-1, "", "", 0),
            new Step(-2, "&", " ", 0),
            new Step(-3, "</resp> ", "</resp>", 0),
            new Step(-4, "resp id=\"o0\"", "resp id=\"r\"", 0),
            new Step(-5, "<stat/>", "", 0),
            new Step(-6, "</assn>", "<sig ref=\"o0\" v=\"V\"/></assn>", 0),
            new Step(-7, "", "", 52685),
            new Step(-8, "p1", "p0", 52685),
            new Step(-9, "to=\"x\"", "to=\"acs\"", 52685),
            new Step(-10, "<stat>no", "<stat>ok", 52685),
            new Step(-11, "irt=\"7\"", "irt=\"0\"", 52685),
            new Step(-12, "aud=\"x\"", "aud=\"sp\"", 40135),
            new Step(-13, "nb=\"9\"", "nb=\"0\"", 23367),
            new Step(-14, "rcp=\"x\"", "rcp=\"acs\"", 47544),
            new Step(-15, "\"o0\"", "\"a\"", 20987));
        eachMended("<out id=\"o0\" to=\"x\"><iss>p0</iss><name>ann</name><name id=\"o0\"/></out>&",
            new Step(-1, "", "", 0),
            new Step(-2, "&", "x", 0),
            new Step(-3, "</out>x", "</out>", 0),
            new Step(-4, "<name id=\"o0\"/>", "<name/>", 0),
            new Step(-5, "<name/>", "", 0),
            new Step(-6, "</out>", "<sig ref=\"o0\" v=\"V\"/></out>", 0),
            new Step(-8, "", "", 61333),
            new Step(-14, "\"x\"", "\"acs\"", 29104),
            new Step(-15, "\"o0\"", "\"o\"", 37112));
    }

    /** "the open sessions of the issuer whose name is the word of its name child end" */
    private static void loggedOut() {
        Desk desk = trusting().fill(signed(RESP, RESP_V));
        Due.is("the response", desk.gate().consume(), 0);
        String another = signed(put(OUT, "ann", "an"), 54443);
        Due.is("a logout of another name", desk.fill(another).gate().consume(), 100);
        String issuer = signed(put(put(OUT, "p0", "p1"), "\"o\"", "\"oo\""), 29665);
        Due.is("a logout by another issuer", desk.fill(issuer).gate().consume(), 100);
        Due.is("still open", desk.gate().session(0), 1);
        Due.is("an id that is seen", desk.fill(signed(OUT, OUT_V)).gate().consume(), -14);
        Due.is("still open", desk.gate().session(0), 1);
    }

    /** "-15 there are 20 sessions", open or ended; "the open sessions .. end", once */
    private static void fullOfSessions() {
        Desk desk = trusting();
        desk.gate().key(0, PLAIN, 1);
        for (int s = 0; s < 20; s++) {
            desk.gate().request(0);
            desk.gate().issue(0, s, 5, 1, 1);
            Due.is("session " + s, desk.gate().consume(), s);
        }
        desk.gate().leave(0, 5);
        Due.is("all of them end", desk.gate().consume(), 120);
        desk.gate().leave(0, 5);
        Due.is("none is open any more", desk.gate().consume(), 100);
        desk.gate().issue(0, 20, 5, 1, 1);
        Due.is("a session more", desk.gate().consume(), -15);
        Due.is("its request", desk.gate().outstanding(), 1);
        desk.gate().leave(0, 5);
        Due.is("a logout more", desk.gate().consume(), 100);
    }

    /** The id of an assn is seen for a logout too, and the other way round; that of a resp is not. */
    private static void seenByBoth() {
        Desk desk = trusting().fill(signed(RESP, RESP_V));
        Due.is("the response", desk.gate().consume(), 0);
        String seen = signed(put(OUT, "\"o\"", "\"a\""), 34985);
        Due.is("the id of the assn", desk.fill(seen).gate().consume(), -14);
        String unseen = signed(put(OUT, "\"o\"", "\"r\""), 51608);
        Due.is("the id of the resp", desk.fill(unseen).gate().consume(), 101);
        Due.is("ended", desk.gate().session(0), 0);
        Due.is("its name stays", desk.nameOf(0), "ann");
    }

    public static void main(String[] args) {
        onlyWhatIsCovered();
        andOnlyThen();
        digests();
        seals();
        issuedTexts();
        validSigs();
        sameCanonicalForm();
        shapes();
        terms();
        termsWithSkew();
        skews();
        firstThatApplies();
        loggedOut();
        fullOfSessions();
        seenByBoth();
        Due.end();
    }
}
