import java.util.ArrayList;
import java.util.List;
import java.util.function.Consumer;

/** Promises 18, 19 and 20: consume, session, name. */
public final class ConsumeTest {
    /** What a response is made of, and what the gate has been through before it comes. */
    private static final class Scene {
        final Draft draft = new Draft();
        String behind = "";
        boolean isUnread = false;
        boolean isFull = false;

        // At a full desk requests 0 to 19 are answered, a0 to a19 are seen, and request 20 is outstanding.
        int consume() {
            Desk desk = Desk.ready(0, 100);
            for (int r = 0; r < 20 && isFull; r++) {
                desk.gate().request(0);
                Due.is("prepared session", desk.takeIssued(0, r, 1, 1), r);
            }
            if (!isFull) {
                desk.gate().request(0);
                Due.is("prepared session", desk.takeIssued(0, 1, 1, 1), 0);
            }
            if (isFull && draft.irt.equals("0")) {
                draft.irt = "20";
                draft.confIrt = "20";
            }
            String text = draft.text();
            text = isUnread ? text.replace("<cond", "< cond") : text;
            return desk.fill(text + behind).gate().consume();
        }
    }

    private static final List<Consumer<Scene>> FAULTS = new ArrayList<>();

    private static void listFaults() {
        FAULTS.add(s -> s.behind = "&");
        FAULTS.add(s -> s.isUnread = true);
        FAULTS.add(s -> s.draft.respExtra = "<x id=\"r0\"/>");
        FAULTS.add(s -> s.draft.assnExtra = "<cond/>");
        FAULTS.add(s -> {
            s.draft.signAssn = false;
            s.draft.signResp = false;
        });
        FAULTS.add(s -> s.draft.offBy = 1);
        FAULTS.add(s -> s.draft.iss = "p1");
        FAULTS.add(s -> s.draft.to = "sp");
        FAULTS.add(s -> s.draft.stat = "no");
        FAULTS.add(s -> {
            s.draft.irt = "25";
            s.draft.confIrt = "25";
        });
        FAULTS.add(s -> s.draft.aud = "acs");
        FAULTS.add(s -> s.draft.nb = "1");
        FAULTS.add(s -> s.draft.rcp = "sp");
        FAULTS.add(s -> s.draft.assnId = "a0");
        FAULTS.add(s -> s.isFull = true);
    }

    /** Of two faults the first in the document's order is the answer. */
    private static void orderOfFaults() {
        listFaults();
        Due.is("no fault", new Scene().consume(), 1);
        for (int i = 0; i < FAULTS.size(); i++) {
            for (int j = i; j < FAULTS.size(); j++) {
                if (i + 1 == 5 && j + 1 == 6) {
                    continue;
                }
                Scene scene = new Scene();
                FAULTS.get(i).accept(scene);
                FAULTS.get(j).accept(scene);
                Due.is("faults " + (i + 1) + " and " + (j + 1), scene.consume(), -(i + 1));
            }
        }
    }

    private static int consumeText(String text) {
        return Desk.ready(0, 100).fill(text).gate().consume();
    }

    private static int consumeAltered(String from, String to) {
        String text = new Draft().text();
        Due.yes("the draft has " + from, text.contains(from));
        return consumeText(text.replace(from, to));
    }

    private static int consumeDraft(Consumer<Draft> change) {
        Draft draft = new Draft();
        change.accept(draft);
        return consumeText(draft.text());
    }

    private static void shapeOfHead() {
        Due.is("resp", consumeAltered("resp", "rest"), -4);
        Due.is("no id", consumeAltered(" id=\"r0\"", ""), -4);
        Due.is("empty id", consumeAltered("id=\"r0\"", "id=\"\""), -4);
        Due.is("id of 1", consumeAltered("id=\"r0\"", "id=\"r\""), 0);
        Due.is("id of 8", consumeAltered("id=\"r0\"", "id=\"12345678\""), 0);
        Due.is("id of 9", consumeAltered("id=\"r0\"", "id=\"123456789\""), -4);
        Due.is("no to", consumeAltered(" to=\"acs\"", ""), -4);
        Due.is("empty to", consumeAltered("to=\"acs\"", "to=\"\""), -8);
        Due.is("no irt", consumeAltered("\"r0\" irt=\"0\"", "\"r0\""), -4);
        Due.is("empty irt", consumeAltered("\"r0\" irt=\"0\"", "\"r0\" irt=\"\""), -10);
        Due.is("no stat", consumeAltered("<stat>ok</stat>", ""), -4);
        Due.is("two stats", consumeAltered("<stat>ok</stat>", "<stat>ok</stat><stat>ok</stat>"), -4);
        Due.is("wordless stat", consumeAltered("<stat>ok</stat>", "<stat/>"), -4);
        Due.is("stat of 8", consumeAltered("<stat>ok<", "<stat>ok      <"), -9);
        Due.is("stat of 9", consumeAltered("<stat>ok<", "<stat>ok       <"), -4);
        Due.is("stat with a comment", consumeAltered("<stat>ok<", "<stat>ok<!----><"), -4);
        Due.is("stat with a child", consumeAltered("<stat>ok<", "<stat>o<a/><"), -4);
        Due.is("deeper stat", consumeAltered("<stat>ok</stat>", "<a><stat>ok</stat></a>"), -4);
        Due.is("two iss", consumeDraft(d -> d.respExtra = "<iss>p0</iss>"), -4);
        Due.is("no iss", consumeAltered("<iss>p0</iss><stat>", "<stat>"), -4);
        Due.is("two sigs", consumeAltered("</assn>", "</assn><sig ref=\"r0\" v=\"1\"/><sig ref=\"r0\" v=\"1\"/>"), -4);
        Due.is("sig without ref", consumeAltered("</assn>", "</assn><sig v=\"1\"/>"), -4);
        Due.is("sig without v", consumeAltered("</assn>", "</assn><sig ref=\"r0\"/>"), -4);
        Due.is("v of ten digits", consumeAltered("</assn>", "</assn><sig ref=\"r0\" v=\"0000000001\"/>"), -4);
        Due.is("v with a sign", consumeAltered("</assn>", "</assn><sig ref=\"r0\" v=\"-1\"/>"), -4);
        Due.is("empty v", consumeAltered("</assn>", "</assn><sig ref=\"r0\" v=\"\"/>"), -4);
        Due.is("other children", consumeDraft(d -> d.respExtra = "<x to=\"a\">y</x><conf/> z <!-- w -->"), 0);
        Due.is("another attribute", consumeAltered("<resp ", "<resp x=\"y\" "), 0);
        Due.is("two assns", consumeAltered("<assn", "<assn/><assn"), -4);
    }

    private static void shapeOfAssn() {
        Due.is("no assn", consumeAltered("assn", "asse"), -4);
        Due.is("no id", consumeAltered(" id=\"zz\"", ""), -4);
        Due.is("empty id", consumeDraft(d -> d.assnId = ""), -4);
        Due.is("id of 8", consumeDraft(d -> d.assnId = "12345678"), 0);
        Due.is("id of 9", consumeDraft(d -> d.assnId = "123456789"), -4);
        Due.is("two iss", consumeDraft(d -> d.assnExtra = "<iss>p0</iss>"), -4);
        Due.is("wordless iss", consumeDraft(d -> d.assnIss = ""), -4);
        Due.is("two conds", consumeDraft(d -> d.assnExtra = "<cond aud=\"sp\" nb=\"0\" noa=\"10\"/>"), -4);
        Due.is("no aud", consumeAltered(" aud=\"sp\"", ""), -4);
        Due.is("no nb", consumeAltered(" nb=\"0\"", ""), -4);
        Due.is("no noa in cond", consumeAltered("nb=\"0\" noa=\"10\"", "nb=\"0\""), -4);
        Due.is("nb is no number", consumeDraft(d -> d.nb = "x"), -4);
        Due.is("nb with what follows 9", consumeDraft(d -> d.nb = "0:"), -4);
        Due.is("nb with what precedes 0", consumeDraft(d -> d.nb = "0/"), -4);
        Due.is("nb is empty", consumeDraft(d -> d.nb = ""), -4);
        Due.is("nb of ten digits", consumeDraft(d -> d.nb = "0000000000"), -4);
        Due.is("nb of nine digits", consumeDraft(d -> d.nb = "000000000"), 0);
        Due.is("noa is no number", consumeDraft(d -> d.noa = "1 "), -4);
        Due.is("the highest noa", consumeDraft(d -> d.noa = "999999999"), 0);
        Due.is("the highest nb", consumeDraft(d -> d.nb = "999999999"), -12);
        Due.is("two subjs", consumeDraft(d -> d.assnExtra = "<subj/>"), -4);
        Due.is("no subj", consumeAltered("subj", "subi"), -4);
        Due.is("two names", consumeDraft(d -> d.subjExtra = "<name>u7</name>"), -4);
        Due.is("no name", consumeAltered("<name>u7</name>", ""), -4);
        Due.is("wordless name", consumeDraft(d -> d.user = ""), -4);
        Due.is("name with a comment", consumeDraft(d -> d.user = "u<!---->"), -4);
        Due.is("name of 8", consumeDraft(d -> d.user = "12345678"), 0);
        Due.is("name of 9", consumeDraft(d -> d.user = "123456789"), -4);
        Due.is("two confs", consumeDraft(d -> d.subjExtra = "<conf/>"), -4);
        Due.is("no conf", consumeAltered("conf", "cont"), -4);
        Due.is("no irt in conf", consumeAltered("<conf irt=\"0\"", "<conf"), -4);
        Due.is("no rcp", consumeAltered(" rcp=\"acs\"", ""), -4);
        Due.is("no noa in conf", consumeAltered("irt=\"0\" noa=\"10\"", "irt=\"0\""), -4);
        Due.is("noa of conf is no number", consumeDraft(d -> d.confNoa = "1a"), -4);
        Due.is("two sigs", consumeDraft(d -> d.assnExtra = "<sig ref=\"zz\" v=\"1\"/>"), -4);
    }

    private static void ids() {
        Due.is("the same id twice", consumeDraft(d -> d.assnId = "r0"), -3);
        Due.is("deep ids", consumeDraft(d -> d.subjExtra = "<a id=\"x\"/><b id=\"x\"/>"), -3);
        Due.is("empty ids", consumeDraft(d -> d.subjExtra = "<a id=\"\"/><b id=\"\"/>"), -3);
        Due.is("long ids", consumeDraft(d -> d.subjExtra = "<a id=\"123456789\"/><b id=\"123456789\"/>"), -3);
        Due.is("different ids", consumeDraft(d -> d.subjExtra = "<a id=\"x\"/><b id=\"xx\"/>"), 0);
        Due.is("ids in any message", consumeText("<a id=\"x\"><b id=\"x\"/></a>"), -3);
        Due.is("neither kind", consumeText("<a id=\"x\"><b id=\"y\"/></a>"), -4);
        Due.is("ids in a comment", consumeDraft(d -> d.subjExtra = "<!-- <a id=\"r0\"/> -->"), 0);
    }

    private static void signatures() {
        Consumer<Draft> both = d -> d.signResp = true;
        Due.is("signed assn", consumeDraft(d -> { }), 0);
        Due.is("both signed", consumeDraft(both), 0);
        Due.is("signed resp", consumeDraft(both.andThen(d -> d.signAssn = false)), 0);
        Due.is("unsigned", consumeDraft(d -> d.signAssn = false), -5);
        Due.is("unknown issuer", consumeDraft(d -> d.assnIss = "p4"), -6);
        Due.is("untrusted issuer", consumeDraft(d -> d.assnIss = "p2"), -6);
        Due.is("longer issuer", consumeDraft(d -> d.assnIss = "p00"), -6);
        Due.is("shorter issuer", consumeDraft(d -> d.assnIss = "p"), -6);
        Due.is("other letter", consumeDraft(d -> d.assnIss = "q0"), -6);
        Due.is("other ref", consumeAltered("ref=\"zz\"", "ref=\"r0\""), -6);
        Due.is("longer ref", consumeAltered("ref=\"zz\"", "ref=\"zzz\""), -6);
        Due.is("covered text altered", consumeAltered("<name>u7", "<name>u8"), -6);
        Due.is("text outside altered", consumeAltered("</stat>", "</stat>x"), 0);
        Due.is("leading zeros in v", consumeAltered(" v=\"", " v=\"000"), 0);
        Due.is("comment in the covered", consumeAltered("</iss><subj>", "</iss><!-- x --><subj>"), 0);
        Due.is("other order", consumeAltered("aud=\"sp\" nb=\"0\"", "nb=\"0\"   aud=\"sp\""), 0);
        Due.is("empty tag written out", consumeAltered("rcp=\"acs\"/>", "rcp=\"acs\"></conf >"), 0);
        Due.is("no iss of trust in resp", consumeDraft(d -> d.iss = "p2"), -7);
        Due.is("one of two is wrong", consumeText(tamperedBoth()), -6);
        Due.is("two issuers, both signed", consumeDraft(both.andThen(d -> d.iss = "p1")), -7);
    }

    // The sig of the resp covers that of the assn: with one wrong, both are looked at.
    private static String tamperedBoth() {
        Draft draft = new Draft();
        draft.signResp = true;
        return draft.text().replace("<stat>ok", "<stat>no");
    }

    /** v is less than n: the same residue written above n is refused. */
    private static void vBelowModulus() {
        Draft draft = new Draft();
        draft.offBy = Desk.MODULUS;
        Due.is("v + n", consumeText(draft.text()), -6);
        Draft zero = draftOfDigestZero();
        Due.yes("the digest is 0", zero.text().contains(" v=\"0\""));
        Due.is("v is 0", consumeText(zero.text()), 0);
        zero.offBy = Desk.MODULUS;
        Due.is("v is n", consumeText(zero.text()), -6);
    }

    private static Draft draftOfDigestZero() {
        Draft draft = new Draft();
        for (int i = 0; i < 10000000 && !draft.text().contains(" v=\"0\""); i++) {
            draft.user = Integer.toString(i, 36);
        }
        return draft;
    }

    /** A word is the one that is due only if each of its characters is. */
    private static void wholeWords() {
        String[][] changes = {{"resp", "xesp"}, {"<stat>ok</stat>", "<xtat>ok</xtat>"}, {"cond", "xond"}, {"conf", "conx"},
            {" id=\"r0\"", " xd=\"r0\""}, {" id=\"r0\"", " ix=\"r0\""}, {"assn", "asxn"}};
        for (String[] change : changes) {
            Due.is(change[1], consumeAltered(change[0], change[1]), -4);
        }
        Due.is("to", consumeDraft(d -> d.to = "xcs"), -8);
        Due.is("to", consumeDraft(d -> d.to = "acx"), -8);
        Due.is("stat", consumeDraft(d -> d.stat = "xk"), -9);
        Due.is("stat", consumeDraft(d -> d.stat = "ox"), -9);
        Due.is("aud", consumeDraft(d -> d.aud = "xp"), -11);
        Due.is("rcp", consumeDraft(d -> d.rcp = "axs"), -13);
    }

    private static void terms() {
        Due.is("irt is no number", consumeDraft(d -> d.irt = "x"), -10);
        Due.is("irt of ten digits", consumeDraft(d -> d.irt = "0000000000"), -10);
        Due.is("irt without a request", consumeDraft(d -> d.irt = "1"), -10);
        Due.is("the highest irt", consumeDraft(d -> d.irt = "999999999"), -10);
        Due.is("the same number, another value", consumeDraft(d -> d.irt = "00"), -13);
        Due.is("the same value in both", consumeDraft(d -> {
            d.irt = "00";
            d.confIrt = "00";
        }), 0);
        Due.is("request to another", consumeDraft(d -> {
            d.iss = "p1";
            d.assnIss = "p1";
        }), -10);
        Due.is("irt of conf", consumeDraft(d -> d.confIrt = "1"), -13);
        Due.is("aud with more", consumeDraft(d -> d.aud = "spa"), -11);
        Due.is("rcp with more", consumeDraft(d -> d.rcp = "acs "), -13);
        Due.is("to with more", consumeDraft(d -> d.to = "acsa"), -8);
        Due.is("stat with more", consumeDraft(d -> d.stat = "ok "), -9);
        Due.is("noa at the clock", consumeDraft(d -> d.noa = "0"), -12);
        Due.is("noa of conf at the clock", consumeDraft(d -> d.confNoa = "0"), -13);
        Due.is("noa behind the clock", consumeDraft(d -> d.noa = "1"), 0);
    }

    /** A signed assertion that was moved aside makes no session for the one in its place. */
    private static void wrapping() {
        String text = new Draft().text();
        int from = text.indexOf("<assn");
        int to = text.indexOf("</assn>") + 7;
        String signed = text.substring(from, to);
        String forged = signed.replace("u7", "u8").replace("\"zz\"", "\"yy\"");
        String bare = forged.replaceAll("<sig.*?/>", "");
        Due.is("forged", consumeText(text.replace(signed, forged)), -6);
        Due.is("aside, unsigned in its place", consumeText(text.replace(signed, "<x>" + signed + "</x>" + bare)), -5);
        Due.is("the same id", consumeText(text.replace(signed, "<x>" + signed + "</x>" + bare.replace("yy", "zz"))), -3);
        String inside = bare.replace("</assn>", "<x>" + signed + "</x></assn>");
        Due.is("inside the forged", consumeText(text.replace(signed, inside)), -5);
    }

    private static void sessions() {
        Desk desk = Desk.ready(0, 100);
        desk.gate().request(1);
        desk.gate().request(0);
        desk.gate().request(0);
        Due.is("session 0", desk.takeIssued(0, 0, 7, 1), 0);
        Due.is("session 1", desk.takeIssued(1, 1, 7, 2), 1);
        Due.is("session 2", desk.takeIssued(0, 2, 77, 3), 2);
        Due.is("session 3", desk.takeIssued(0, 3, 7, 1), 3);
        Due.is("name 0", desk.nameOf(0), "u7");
        Due.is("name 2", desk.nameOf(2), "u77");
        for (int wrong : new int[] {-1, 4, 20, Integer.MIN_VALUE, Integer.MAX_VALUE}) {
            Due.is("session " + wrong, desk.gate().session(wrong), -1);
            Due.is("name of " + wrong, desk.gate().name(wrong, 0), -1);
        }
        for (int wrong : new int[] {-1, 2, 8, Integer.MIN_VALUE, Integer.MAX_VALUE}) {
            Due.is("name at " + wrong, desk.gate().name(0, wrong), -1);
        }
        Due.is("issuer of 1", desk.gate().session(1), 2);
        Due.yes("leave", desk.gate().leave(0, 7));
        Due.is("two end", desk.gate().consume(), 102);
        Due.is("again", desk.gate().consume(), -14);
        int[] states = {0, 2, 1, 0};
        for (int s = 0; s < 4; s++) {
            Due.is("session " + s, desk.gate().session(s), states[s]);
        }
        Due.is("name of an ended session", desk.nameOf(0), "u7");
        Due.yes("leave", desk.gate().leave(0, 7));
        Due.is("ended ones do not end again", desk.gate().consume(), 100);
        Due.yes("leave", desk.gate().leave(1, 77));
        Due.is("another issuer's session stays", desk.gate().consume(), 100);
    }

    private static void replay() {
        Desk desk = Desk.ready(0, 100);
        desk.gate().request(0);
        Due.is("first", desk.takeIssued(0, 0, 1, 1), 0);
        Draft draft = new Draft();
        draft.assnId = "a0";
        draft.irt = "1";
        draft.confIrt = "1";
        Due.is("an id that is seen", desk.fill(draft.text()).gate().consume(), -14);
        Due.is("the request stays", desk.gate().outstanding(), 1);
        Due.is("the text stays", desk.gate().length(), draft.text().length());
        Due.is("an answer in its place", desk.takeIssued(0, 1, 1, 1), 1);
    }

    private static String logout(String id, String to, String extra, boolean isSigned) {
        String form = "<out id=\"" + id + "\" to=\"" + to + "\"><iss>p0</iss><name>u7</name>" + extra + "@</out>";
        int digest = Oracle.read(form.replace("@", "")).get(0).digest();
        int v = Oracle.power(digest, Desk.PRIVATE_EXPONENT, Desk.MODULUS);
        return form.replace("@", isSigned ? "<sig ref=\"" + id + "\" v=\"" + v + "\"/>" : "");
    }

    private static void logouts() {
        String good = logout("o1", "acs", "", true);
        Due.is("logout", consumeText(good), 100);
        Due.is("with more", consumeText(logout("o1", "acs", "<x/> y", true)), 100);
        Due.is("unsigned", consumeText(logout("o1", "acs", "", false)), -5);
        Due.is("address", consumeText(logout("o1", "sp", "", true)), -8);
        Due.is("unsigned, address", consumeText(logout("o1", "sp", "", false)), -5);
        Due.is("altered", consumeText(good.replace("u7", "u8")), -6);
        Due.is("altered address", consumeText(good.replace("acs", "sp")), -6);
        Due.is("same id", consumeText(logout("o1", "acs", "<x id=\"o1\"/>", true)), -3);
        Due.is("id of 8", consumeText(logout("12345678", "acs", "", true)), 100);
        Due.is("id of 9", consumeText(logout("123456789", "acs", "", true)), -4);
        Due.is("two names", consumeText(logout("o1", "acs", "<name>x</name>", true)), -4);
        Due.is("two iss", consumeText(logout("o1", "acs", "<iss>x</iss>", true)), -4);
        Due.is("two sigs", consumeText(logout("o1", "acs", "<sig ref=\"o1\" v=\"1\"/>", true)), -4);
        Due.is("no to", consumeText(good.replace(" to=\"acs\"", "")), -4);
        Due.is("no id", consumeText(good.replace(" id=\"o1\"", "")), -4);
        Due.is("no name", consumeText(good.replace("<name>u7</name>", "")), -4);
        Due.is("wordless name", consumeText(good.replace("<name>u7</name>", "<name/>")), -4);
        Due.is("another name", consumeText(good.replace("out", "outs")), -4);
    }

    /** A logout of an id that an assertion had, and the other way round: the keys are the same. */
    private static void keysAreShared() {
        Desk desk = Desk.ready(0, 100);
        Due.is("first", desk.takeIssued(0, 0, 1, 1), 0);
        Due.is("logout with the id of an assn", desk.fill(logout("a0", "acs", "", true)).gate().consume(), -14);
        Due.is("logout with the id of a resp", desk.fill(logout("r0", "acs", "", true)).gate().consume(), 100);
        Desk other = Desk.ready(0, 100);
        Due.is("logout", other.fill(logout("zz", "acs", "", true)).gate().consume(), 100);
        Due.is("assn with the id of a logout", other.fill(new Draft().text()).gate().consume(), -14);
    }

    private static void limits() {
        Desk desk = Desk.ready(0, 1000);
        for (int x = 0; x < 39; x++) {
            Due.yes("leave", desk.gate().leave(0, 1));
            Due.is("logout", desk.gate().consume(), 100);
        }
        Due.is("the 40th key", desk.takeIssued(0, 0, 1, 1), 0);
        desk.gate().request(0);
        Due.is("an assn after 40 keys", desk.takeIssued(0, 1, 1, 1), -15);
        Due.is("the request stays", desk.gate().outstanding(), 1);
        Due.yes("leave", desk.gate().leave(0, 1));
        Due.is("a logout after 40 keys", desk.gate().consume(), -15);
        Due.is("the session stays", desk.gate().session(0), 1);
        Desk full = Desk.ready(0, 1000);
        for (int r = 0; r < 20; r++) {
            full.gate().request(0);
            Due.is("session", full.takeIssued(0, r, r, 2), r);
        }
        Due.is("the 21st session", full.takeIssued(0, 20, 1, 2), -15);
        Due.yes("leave", full.gate().leave(0, 19));
        Due.is("a logout with 20 sessions", full.gate().consume(), 101);
        Due.is("ended ones count", full.takeIssued(0, 20, 1, 2), -15);
        Due.is("no session", full.gate().session(20), -1);
        Due.is("the last name", full.nameOf(19), "u19");
    }

    public static void main(String[] args) {
        orderOfFaults();
        shapeOfHead();
        shapeOfAssn();
        ids();
        signatures();
        vBelowModulus();
        wholeWords();
        terms();
        wrapping();
        sessions();
        replay();
        logouts();
        keysAreShared();
        limits();
        Due.end();
    }
}
