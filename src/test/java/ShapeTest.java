import java.util.function.BiConsumer;
import java.util.function.Function;

/**
 * What consume answers -3 and -4: ids, the shapes RESPONSE and LOGOUT, and the terms KEY, WORD and NUMBER in every place
 * that asks for one.
 */
public final class ShapeTest {
    private static final int OTHER = -4;
    private static final String[] NO_NUMBERS = {"", "x", "/", ":", " ", "0/", "0:", "/0", ":0", "1 ", " 1", "-1", "+1",
        "1a", "1.0", "0000000000", "0000000009", "1000000000", "9999999999"};

    /** Answers for a value of a response, once it has been put in its place. */
    private static Function<String, Integer> inResponse(BiConsumer<Draft, String> place) {
        return value -> Take.response(d -> place.accept(d, value));
    }

    private static Function<String, Integer> inLogout(BiConsumer<LogoutDraft, String> place) {
        return value -> Take.logout(d -> place.accept(d, value));
    }

    private static void isKey(String place, Function<String, Integer> answer, int accepted) {
        Due.is(place + " of 0", answer.apply(""), OTHER);
        Due.is(place + " of 1", answer.apply("k"), accepted);
        Due.is(place + " of 8", answer.apply("12345678"), accepted);
        Due.is(place + " of 8 marks", answer.apply(" ~>/='.}"), accepted);
        Due.is(place + " of 9", answer.apply("123456789"), OTHER);
    }

    /** "A KEY is a value of 1 .. 8 characters." */
    private static void keys() {
        isKey("id of the resp", inResponse((d, v) -> d.id = v), 0);
        isKey("id of a signed resp", inResponse((d, v) -> d.signed(false, true).id = v), 0);
        isKey("id of the assn", inResponse((d, v) -> d.assnId = v), 0);
        isKey("id of the out", inLogout((d, v) -> d.id = v), 100);
    }

    /** What another word than the due one is answered with tells that it is one. */
    private static void isWord(String place, Function<String, Integer> answer, int another) {
        Due.is(place + " of 0", answer.apply(""), OTHER);
        Due.is(place + " of 1", answer.apply("x"), another);
        Due.is(place + " of 8", answer.apply("12345678"), another);
        Due.is(place + " of 9", answer.apply("123456789"), OTHER);
        Due.is(place + " of 8 marks", answer.apply(" ~>/='\"}"), another);
        Due.is(place + " with a comment before", answer.apply("<!---->x"), OTHER);
        Due.is(place + " with a comment behind", answer.apply("x<!---->"), OTHER);
        Due.is(place + " that is a comment", answer.apply("<!---->"), OTHER);
        Due.is(place + " that is an element", answer.apply("<a/>"), OTHER);
        Due.is(place + " with an element inside", answer.apply("xy<a/>zw"), OTHER);
        Due.is(place + " of 9 with an element", answer.apply("x<a></a>y"), OTHER);
    }

    /** "The WORD of an element: the characters of its content if there are 1 .. 8 of them and there is no < among them" */
    private static void words() {
        isWord("iss of the resp", inResponse((d, v) -> d.iss = v), -7);
        isWord("stat", inResponse((d, v) -> d.stat = v), -9);
        isWord("iss of the assn", inResponse((d, v) -> d.assnIss = v), -6);
        isWord("name of the subj", inResponse((d, v) -> d.user = v), 0);
        isWord("iss of the out", inLogout((d, v) -> d.iss = v), -6);
        isWord("name of the out", inLogout((d, v) -> d.user = v), 100);
        String[] words = {"<iss>p0</iss><stat>", "<iss>p0</iss><subj>"};
        for (String word : words) {
            String wordless = word.replace("<iss>p0</iss>", "<iss/>");
            Due.is("empty tag for " + word, Take.response(d -> d.alter(word, wordless)), OTHER);
        }
        Due.is("empty tag for stat", Take.response(d -> d.alter("<stat>ok</stat>", "<stat/>")), OTHER);
        Due.is("empty tag for name", Take.response(d -> d.alter("<name>u7</name>", "<name/>")), OTHER);
        Due.is("empty tag for iss", Take.logout(d -> d.alter("<iss>p0</iss>", "<iss/>")), OTHER);
        Due.is("empty tag for name", Take.logout(d -> d.alter("<name>u7</name>", "<name/>")), OTHER);
    }

    private static void isNumber(String place, Function<String, Integer> answer, String[] numbers) {
        for (String number : numbers) {
            Due.is(place + " " + number, answer.apply(number), 0);
        }
        for (String value : NO_NUMBERS) {
            Due.is(place + " '" + value + "'", answer.apply(value), OTHER);
        }
    }

    /** "A NUMBER is a value of 1 .. 9 digits.", asked for in cond and conf. */
    private static void numbers() {
        isNumber("nb", inResponse((d, v) -> d.nb = v), new String[] {"0", "00", "000000000"});
        String[] later = {"1", "9", "10", "000000001", "999999999"};
        isNumber("noa of cond", inResponse((d, v) -> d.noa = v), later);
        isNumber("noa of conf", inResponse((d, v) -> d.confNoa = v), later);
        Due.is("the highest nb", Take.response(d -> d.nb = "999999999"), -12);
    }

    private static String padded(String text, int from, int digits) {
        int start = text.indexOf(" v=\"", from) + 4;
        int end = text.indexOf('"', start);
        return text.substring(0, start) + "0".repeat(digits - (end - start)) + text.substring(start);
    }

    private static String withV(String text, int from, String v) {
        int start = text.indexOf(" v=\"", from) + 4;
        return text.substring(0, start) + v + text.substring(text.indexOf('"', start));
    }

    /** The same of the v of a sig, whose text is signed; the sig begins behind 'from'. */
    private static void isNumberInSig(String place, String text, int from, int accepted) {
        Due.is(place + " of 8 digits", Take.text(padded(text, from, 8)), accepted);
        Due.is(place + " of 9 digits", Take.text(padded(text, from, 9)), accepted);
        Due.is(place + " of 10 digits", Take.text(padded(text, from, 10)), OTHER);
        Due.is(place + " of 1 digit", Take.text(withV(text, from, "1")), -6);
        Due.is(place + ", the highest", Take.text(withV(text, from, "999999999")), -6);
        for (String value : NO_NUMBERS) {
            Due.is(place + " '" + value + "'", Take.text(withV(text, from, value)), OTHER);
        }
    }

    private static void numbersInSigs() {
        isNumberInSig("v in the assn", Take.responseText(d -> { }), 0, 0);
        isNumberInSig("v in the resp", Take.responseText(d -> d.signed(false, true)), 0, 0);
        String both = Take.responseText(d -> d.signed(true, true));
        isNumberInSig("v in the resp of two", both, both.indexOf("</assn>"), 0);
        isNumberInSig("v in the out", Take.logoutText(d -> { }), 0, 100);
    }

    private static void needsAttribute(String name, String value, Function<String, Integer> answer) {
        String whole = " " + name + "=\"" + value + "\"";
        Due.is("with" + whole, answer.apply(whole) >= 0 ? 1 : 0, 1);
        Due.is("without" + whole, answer.apply(""), OTHER);
        Due.is("longer" + whole, answer.apply(whole.replace("=", "x=")), OTHER);
        Due.is("shorter" + whole, answer.apply(whole.replace(name, name.substring(0, name.length() - 1) + "q")), OTHER);
        Due.is("another start" + whole, answer.apply(whole.replace(" " + name, " q" + name.substring(1))), OTHER);
    }

    private static Function<String, Integer> inPlaceOf(String before, String attribute) {
        return with -> Take.response(d -> d.alter(before + attribute, before + with));
    }

    private static Function<String, Integer> inLogoutFor(String before, String attribute) {
        return with -> Take.logout(d -> d.alter(before + attribute, before + with));
    }

    /** "has attributes id, a key, to, and irt", "aud, nb and noa", "irt, rcp and noa", "id, a key, and to" */
    private static void attributes() {
        needsAttribute("id", "r0", inPlaceOf("<resp", " id=\"r0\""));
        needsAttribute("irt", "0", inPlaceOf("<resp id=\"r0\"", " irt=\"0\""));
        needsAttribute("to", "acs", inPlaceOf("", " to=\"acs\""));
        needsAttribute("id", "zz", inPlaceOf("<assn", " id=\"zz\""));
        needsAttribute("aud", "sp", inPlaceOf("<cond", " aud=\"sp\""));
        needsAttribute("nb", "0", inPlaceOf("", " nb=\"0\""));
        needsAttribute("noa", "10", inPlaceOf(" nb=\"0\"", " noa=\"10\""));
        needsAttribute("irt", "0", inPlaceOf("<conf", " irt=\"0\""));
        needsAttribute("noa", "10", inPlaceOf("<conf irt=\"0\"", " noa=\"10\""));
        needsAttribute("rcp", "acs", inPlaceOf("", " rcp=\"acs\""));
        needsAttribute("id", "o1", inLogoutFor("<out", " id=\"o1\""));
        needsAttribute("to", "acs", inLogoutFor("", " to=\"acs\""));
        Due.is("to in another element", Take.response(d -> d.alter(" to=\"acs\"><iss>", "><iss to=\"acs\">")), OTHER);
    }

    /** "The sig children of the resp and the assn have attributes ref and v"; a sig elsewhere need not. */
    private static void attributesOfSigs() {
        String[][] changes = {{" ref=", " rex="}, {" ref=", " refx="}, {" v=", " w="}, {" v=", " vv="}};
        for (String[] change : changes) {
            Due.is("in the assn" + change[1], Take.altered(change[0], change[1]), OTHER);
            Due.is("in the resp" + change[1], Take.altered(new Draft().signed(false, true), change[0], change[1]), OTHER);
            Due.is("in the out" + change[1], Take.alteredLogout(change[0], change[1]), OTHER);
        }
        Due.is("assn: no ref", Take.altered("<sig ref=\"zz\"", "<sig"), OTHER);
        Due.is("resp: no ref", Take.altered("</assn>", "</assn><sig v=\"1\"/>"), OTHER);
        Due.is("resp: no v", Take.altered("</assn>", "</assn><sig ref=\"r0\"/>"), OTHER);
        Due.is("resp: neither", Take.altered("</assn>", "</assn><sig/>"), OTHER);
        Due.is("out: no ref", Take.alteredLogout(" ref=\"o1\"", ""), OTHER);
        Due.is("out: empty ref", Take.alteredLogout(" ref=\"o1\"", " ref=\"\""), -6);
        Due.is("a sig of the subj", Take.response(d -> d.subjExtra = "<sig/><sig/>"), 0);
        Due.is("a sig of another child", Take.response(d -> d.respExtra = "<x><sig/></x>"), 0);
        Due.is("a sig of another child of the out", Take.logout(d -> d.extra = "<x><sig/></x>"), 100);
        Due.is("a sig with more", Take.altered("<sig ", "<sig x=\"y\" "), 0);
    }

    private static void exactlyOne(String name, String child, Function<String, Integer> answer) {
        String other = "<" + name + "/>";
        Due.yes("one " + name, answer.apply(child) >= 0);
        Due.is("no " + name, answer.apply(""), OTHER);
        Due.is("another before " + name, answer.apply(other + child), OTHER);
        Due.is("another behind " + name, answer.apply(child + other), OTHER);
        Due.is("a deeper " + name, answer.apply("<x>" + child + "</x>"), OTHER);
        Due.yes("a deeper one beside " + name, answer.apply(child + "<x>" + other + "</x>") >= 0);
        Due.is("the deeper one is another, " + name, answer.apply(other + "<x>" + child + "</x>"), OTHER);
        Due.is("a longer name for " + name, answer.apply(child.replace(name, name + "x")), OTHER);
        String otherEnd = name.substring(0, name.length() - 1) + "q";
        Due.is("another end of " + name, answer.apply(child.replace(name, otherEnd)), OTHER);
        Due.is("another start of " + name, answer.apply(child.replace(name, "q" + name.substring(1))), OTHER);
    }

    private static Function<String, Integer> childFor(String before, String child, String after) {
        return with -> Take.response(d -> d.alter(before + child + after, before + with + after));
    }

    /** "exactly one child named iss, with a word, exactly one stat, with a word, exactly one assn" and so on */
    private static void children() {
        String iss = "<iss>p0</iss>";
        String name = "<name>u7</name>";
        String conf = "<conf irt=\"0\" noa=\"10\" rcp=\"acs\"/>";
        String cond = "<cond aud=\"sp\" nb=\"0\" noa=\"10\"/>";
        String subj = "<subj>" + name + conf + "</subj>";
        String assn = "<assn id=\"zz\">" + iss + subj + cond + "@</assn>";
        exactlyOne("iss", iss, childFor("", iss, "<stat>"));
        exactlyOne("stat", "<stat>ok</stat>", childFor("", "<stat>ok</stat>", ""));
        exactlyOne("assn", assn, childFor("", assn, ""));
        exactlyOne("iss", iss, childFor("", iss, "<subj>"));
        exactlyOne("cond", cond, childFor("", cond, ""));
        exactlyOne("subj", subj, childFor("", subj, ""));
        exactlyOne("name", name, childFor("", name, ""));
        exactlyOne("conf", conf, childFor("", conf, ""));
        exactlyOne("iss", iss, with -> Take.logout(d -> d.alter(iss, with)));
        exactlyOne("name", name, with -> Take.logout(d -> d.alter(name, with)));
        for (String twice : new String[] {"<stat>ok</stat>", cond, name, conf}) {
            Due.is("twice " + twice, Take.response(d -> d.alter(twice, twice + twice)), OTHER);
        }
        Due.is("two iss of the resp", Take.response(d -> d.respExtra = iss), OTHER);
        Due.is("two iss of the assn", Take.response(d -> d.assnExtra = iss), OTHER);
        Due.is("two iss of the out", Take.logout(d -> d.extra = iss), OTHER);
        Due.is("two names of the out", Take.logout(d -> d.extra = name), OTHER);
    }

    private static String twoSigs(String text) {
        int from = text.indexOf("<sig");
        String sig = text.substring(from, text.indexOf("/>", from) + 2);
        return text.replace(sig, sig + sig);
    }

    /** "and at most one sig" */
    private static void atMostOneSig() {
        Due.is("one in the assn", Take.response(d -> d.signed(true, false)), 0);
        Due.is("two in the assn", Take.text(twoSigs(Take.responseText(d -> d.signed(true, false)))), OTHER);
        Due.is("two in the assn, none sound", Take.response(d -> d.assnExtra = "<sig/>"), OTHER);
        Due.is("one in the resp", Take.response(d -> d.signed(false, true)), 0);
        Due.is("two in the resp", Take.text(twoSigs(Take.responseText(d -> d.signed(false, true)))), OTHER);
        Due.is("two in the resp, unsound first", Take.response(d -> d.signed(true, true).respExtra = "<sig/>"), OTHER);
        Due.is("one in each", Take.response(d -> d.signed(true, true)), 0);
        Due.is("none in the out", Take.logout(d -> d.isSigned = false), -5);
        Due.is("one in the out", Take.logout(d -> { }), 100);
        Due.is("two in the out", Take.text(twoSigs(Take.logoutText(d -> { }))), OTHER);
    }

    /** "element 0 is named resp", "element 0 is named out" */
    private static void rootNames() {
        for (String other : new String[] {"res", "respx", "rest", "xesp", "rexp", "out", "assn"}) {
            Due.is("a response named " + other, Take.altered("resp", other), OTHER);
        }
        for (String other : new String[] {"ou", "outs", "oux", "xut", "oxt", "resp"}) {
            Due.is("a logout named " + other, Take.alteredLogout("out", other), OTHER);
        }
        Due.is("a response inside", Take.text("<x>" + new Draft().text() + "</x>"), OTHER);
        Due.is("a response inside a resp", Take.text("<resp>" + new Draft().text() + "</resp>"), OTHER);
        Due.is("a logout inside", Take.text("<x>" + new LogoutDraft().text() + "</x>"), OTHER);
        Due.is("neither", Take.text("<a/>"), OTHER);
        Due.is("an empty resp", Take.text("<resp/>"), OTHER);
        Due.is("an empty out", Take.text("<out/>"), OTHER);
    }

    /** An element without content has no word, whatever stood in that place of an earlier text. */
    private static void wordsOfEarlierTexts() {
        for (int more = 0; more < 8; more++) {
            String filler = "y".repeat(more);
            Desk desk = Desk.ready(0, 100);
            Due.is("a logout", desk.fill(Take.logoutText(d -> d.user = "12345678")).gate().consume(), 100);
            String wordless = Take.logoutText(d -> d.alter("<name>u7</name>", "<name/>" + filler));
            Due.is("then " + wordless, desk.fill(wordless.replace("o1", "o2")).gate().consume(), OTHER);
        }
    }

    /** "(Other children and attributes may be there.)" */
    private static void others() {
        Due.is("children of the resp", Take.response(d -> d.respExtra = "<x to=\"a\">y</x><conf/> z <!-- w -->"), 0);
        Due.is("children of the assn", Take.response(d -> d.assnExtra = "<x/><stat/><name/><conf/> z <!-- w -->"), 0);
        Due.is("children of the subj", Take.response(d -> d.subjExtra = "<x/><iss/><cond/><assn/> z <!-- w -->"), 0);
        Due.is("an attribute of the resp", Take.response(d -> d.alter("<resp ", "<resp x=\"y\" ")), 0);
        Due.is("attributes of the assn", Take.response(d -> d.alter("<assn ", "<assn x=\"y\" to=\"\" irt=\"\" ")), 0);
        Due.is("an attribute of the cond", Take.response(d -> d.alter("<cond ", "<cond x=\"y\" ")), 0);
        Due.is("an attribute of the conf", Take.response(d -> d.alter("<conf ", "<conf x=\"y\" ")), 0);
        Due.is("an attribute of a word", Take.response(d -> d.alter("<stat>", "<stat x=\"y\">")), 0);
        Due.is("content of the conf", Take.response(d -> d.alter("rcp=\"acs\"/>", "rcp=\"acs\">x<y/></conf>")), 0);
        Due.is("children of the out", Take.logout(d -> d.extra = "<x/><stat/><assn/> z <!-- w -->"), 100);
        Due.is("attributes of the out", Take.logout(d -> d.alter("<out ", "<out x=\"y\" irt=\"\" ")), 100);
    }

    /** "-3 two of its elements have an attribute id of the same value" */
    private static void ids() {
        Due.is("of resp and assn", Take.response(d -> d.assnId = "r0"), -3);
        Due.is("longer", Take.response(d -> d.assnId = "r00"), 0);
        Due.is("shorter", Take.response(d -> d.assnId = "r"), 0);
        Due.is("deep", Take.response(d -> d.subjExtra = "<a id=\"x\"/><b id=\"x\"/>"), -3);
        Due.is("deep, different", Take.response(d -> d.subjExtra = "<a id=\"x\"/><b id=\"xx\"/>"), 0);
        Due.is("empty", Take.response(d -> d.subjExtra = "<a id=\"\"/><b id=\"\"/>"), -3);
        Due.is("one empty", Take.response(d -> d.subjExtra = "<a id=\"\"/>"), 0);
        Due.is("of 9", Take.response(d -> d.subjExtra = "<a id=\"123456789\"/><b id=\"123456789\"/>"), -3);
        Due.is("of 9, different", Take.response(d -> d.subjExtra = "<a id=\"123456789\"/><b id=\"123456780\"/>"), 0);
        Due.is("another attribute", Take.response(d -> d.subjExtra = "<a x=\"r0\"/><b x=\"r0\"/>"), 0);
        Due.is("another attribute, longer", Take.response(d -> d.subjExtra = "<a idx=\"r0\"/><b i=\"r0\"/>"), 0);
        Due.is("in a comment", Take.response(d -> d.subjExtra = "<!-- <a id=\"r0\"/> -->"), 0);
        Due.is("in a sig", Take.altered("<sig ", "<sig id=\"r0\" "), -3);
        Due.is("in any message", Take.text("<a id=\"x\"><b id=\"x\"/></a>"), -3);
        Due.is("in any message, different", Take.text("<a id=\"x\"><b id=\"y\"/></a>"), OTHER);
        Due.is("the last two of 20", Take.text("<a>" + "<b/>".repeat(17) + "<c id=\"x\"/><c id=\"x\"/></a>"), -3);
        Due.is("the first and the last of 20", Take.text("<a id=\"x\">" + "<b/>".repeat(18) + "<c id=\"x\"/></a>"), -3);
        Due.is("of a logout", Take.logout(d -> d.extra = "<x id=\"o1\"/>"), -3);
        Due.is("of a logout, different", Take.logout(d -> d.extra = "<x id=\"o2\"/>"), 100);
    }

    public static void main(String[] args) {
        keys();
        words();
        numbers();
        numbersInSigs();
        attributes();
        attributesOfSigs();
        children();
        atMostOneSig();
        rootNames();
        wordsOfEarlierTexts();
        others();
        ids();
        Due.end();
    }
}
