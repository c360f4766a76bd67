/** Promises 16 and 17: digest and seal, over the canonical form. */
public final class DigestTest {
    private static void isForm(String text, int k, String canonical) {
        Due.is("digest " + k + " of " + text, new Desk(0, 100).fill(text).gate().digest(k), Oracle.digestOf(canonical));
    }

    /** "then >, then its content, in which comments are left out and elements are in their canonical form" */
    private static void forms() {
        isForm("<a/>", 0, "<a></a>");
        isForm("<a></a>", 0, "<a></a>");
        isForm("<a  ></a  >", 0, "<a></a>");
        isForm("<a> x </a>", 0, "<a> x </a>");
        isForm("<a>x<!-- y -->z</a>", 0, "<a>xz</a>");
        isForm("<a><!----></a>", 0, "<a></a>");
        isForm("<a><!-- <b/> --><b/></a>", 0, "<a><b></b></a>");
        isForm("<a><!-- <b/> --><c/></a>", 1, "<c></c>");
        isForm("<a>x<b>y</b>z</a>", 0, "<a>x<b>y</b>z</a>");
        isForm("<a>x<b>y</b>z</a>", 1, "<b>y</b>");
        isForm("<a><b><c/></b><d/></a>", 3, "<d></d>");
        isForm("<a><b><c/></b><d/></a>", 1, "<b><c></c></b>");
        isForm("<a>></a>", 0, "<a>></a>");
    }

    /** "in rising order of their names (letter by letter, a name before those that it begins)" */
    private static void attributes() {
        isForm("<a   b=\"1\"   />", 0, "<a b=\"1\"></a>");
        isForm("<a c=\"2\" b=\"1\"/>", 0, "<a b=\"1\" c=\"2\"></a>");
        isForm("<a bb=\"2\" b=\"1\"/>", 0, "<a b=\"1\" bb=\"2\"></a>");
        isForm("<a c=\"3\" bb=\"2\" b=\"1\" ba=\"4\"/>", 0, "<a b=\"1\" ba=\"4\" bb=\"2\" c=\"3\"></a>");
        isForm("<a d=\"1\" c=\"2\" b=\"3\" a=\"4\"/>", 0, "<a a=\"4\" b=\"3\" c=\"2\" d=\"1\"></a>");
        isForm("<a b=\"2\" abcdef=\"1\"/>", 0, "<a abcdef=\"1\" b=\"2\"></a>");
        isForm("<a abc=\"3\" ab=\"2\" a=\"1\"/>", 0, "<a a=\"1\" ab=\"2\" abc=\"3\"></a>");
        isForm("<a a=\"1\" ab=\"2\" abc=\"3\"/>", 0, "<a a=\"1\" ab=\"2\" abc=\"3\"></a>");
        isForm("<a za=\"1\" az=\"2\"/>", 0, "<a az=\"2\" za=\"1\"></a>");
        isForm("<a b=\" > ' = \"/>", 0, "<a b=\" > ' = \"></a>");
        isForm("<a><b d=\"\" c=\"\"/></a>", 0, "<a><b c=\"\" d=\"\"></b></a>");
    }

    /** "from its canonical form, but without its children named sig" */
    private static void sigs() {
        isForm("<a><sig/></a>", 0, "<a></a>");
        isForm("<a>x<sig ref=\"a\">y<b/><!-- z --></sig>w<b/></a>", 0, "<a>xw<b></b></a>");
        isForm("<a><sig/>x<sig></sig></a>", 0, "<a>x</a>");
        isForm("<a><sig/></a>", 1, "<sig></sig>");
        isForm("<a><b><sig/></b></a>", 0, "<a><b><sig></sig></b></a>");
        isForm("<a><b><sig/></b></a>", 1, "<b></b>");
        isForm("<sig><sig><sig/></sig></sig>", 0, "<sig></sig>");
        isForm("<a><sigs/><si/></a>", 0, "<a><sigs></sigs><si></si></a>");
        isForm("<a><sig><c/><d/></sig><b c=\"1\"/></a>", 0, "<a><b c=\"1\"></b></a>");
    }

    /** "(digest * 257 + c) mod 65521": the highest digest, and 0 behind it */
    private static void wrapAround() {
        for (int wanted : new int[] {65519, 65520, 0, 1}) {
            String text = "<a></a>";
            for (int i = 0; i < 10000000 && Oracle.digestOf(text) != wanted; i++) {
                text = "<a>" + Integer.toString(i, 36) + "</a>";
            }
            Due.is("digest of " + text, new Desk(0, 100).fill(text).gate().digest(0), wanted);
            Desk desk = new Desk(0, 100).withIssuers().fill(text);
            int seal = Oracle.power(wanted, Desk.PRIVATE_EXPONENT, Desk.MODULUS);
            Due.is("seal of " + text, desk.gate().seal(3, 0), seal);
            desk.gate().key(3, 65521, 1);
            Due.is("seal of " + text + " with the lowest key", desk.gate().seal(3, 0), wanted);
        }
        String longest = "<a>" + "~".repeat(393) + "</a>";
        isForm(longest, 0, longest);
    }

    /** "Elements are numbered from 0 in the order in which they begin in the text." */
    private static void numbering() {
        String text = "<a><b><c/></b><d><e><f/></e></d>" + "<g/>".repeat(13) + "<h/></a>";
        Desk desk = new Desk(0, 100).fill(text);
        desk.gate().key(0, 65521, 1);
        Due.is("elements", desk.gate().elements(), 20);
        String[] forms = {"<b><c></c></b>", "<c></c>", "<d><e><f></f></e></d>", "<e><f></f></e>", "<f></f>", "<g></g>"};
        for (int k = 1; k <= forms.length; k++) {
            Due.is("digest " + k, desk.gate().digest(k), Oracle.digestOf(forms[k - 1]));
        }
        Due.is("digest 18", desk.gate().digest(18), Oracle.digestOf("<g></g>"));
        Due.is("digest 19", desk.gate().digest(19), Oracle.digestOf("<h></h>"));
        Due.is("digest 20", desk.gate().digest(20), -1);
        Due.is("digest -1", desk.gate().digest(-1), -1);
        Due.is("seal of 19", desk.gate().seal(0, 19), Oracle.digestOf("<h></h>"));
        Due.is("seal of 20", desk.gate().seal(0, 20), -1);
        Due.is("seal of -1", desk.gate().seal(0, -1), -1);
    }

    /** Issuers 0 .. 3 seal, each with its own key. */
    private static void sealers() {
        Desk desk = new Desk(0, 100).fill("<a/>");
        int digest = Oracle.digestOf("<a></a>");
        for (int i = 0; i < 4; i++) {
            Due.is("seal before its key", desk.gate().seal(i, 0), -1);
            Due.yes("key", desk.gate().key(i, 70001 + i, 2 + i));
        }
        for (int i = 0; i < 4; i++) {
            Due.is("seal by " + i, desk.gate().seal(i, 0), Oracle.power(digest, 2 + i, 70001 + i));
        }
        Due.is("seal by -1", desk.gate().seal(-1, 0), -1);
        Due.is("seal by 4", desk.gate().seal(4, 0), -1);
    }

    /** "-1 if the text is no message or has no element k", "-1 if i is not 0 .. 3 or has none" */
    private static void whereThereIsNone() {
        Desk desk = new Desk(0, 100).fill("<a><b/></a>");
        Due.yes("key", desk.gate().key(2, 65521, 1));
        for (int k : new int[] {-1, 2, 20, Integer.MIN_VALUE, Integer.MAX_VALUE}) {
            Due.is("digest " + k, desk.gate().digest(k), -1);
            Due.is("seal of " + k, desk.gate().seal(2, k), -1);
        }
        for (int i : new int[] {-1, 0, 1, 3, 4, Integer.MIN_VALUE, Integer.MAX_VALUE}) {
            Due.is("seal by " + i, desk.gate().seal(i, 0), -1);
        }
        Due.is("seal with exponent 1", desk.gate().seal(2, 0), desk.gate().digest(0));
        desk.gate().write('x');
        Due.is("digest of no message", desk.gate().digest(0), -1);
        Due.is("seal of no message", desk.gate().seal(2, 0), -1);
        desk.fill("<a>&</a>");
        Due.is("digest of a banned text", desk.gate().digest(0), -1);
        Due.is("seal of a banned text", desk.gate().seal(2, 0), -1);
    }

    private static void powers() {
        int[][] keys = {{65521, 2}, {1000000, 1000000}, {999983, 999982}, {67591, 26829}, {999999, 524288}, {65522, 3}};
        for (int[] key : keys) {
            Desk desk = new Desk(0, 100).fill("<abc d=\"e\">fgh</abc>");
            Due.yes("key", desk.gate().key(3, key[0], key[1]));
            int digest = desk.gate().digest(0);
            Due.is("seal", desk.gate().seal(3, 0), Oracle.power(digest, key[1], key[0]));
        }
        Desk desk = new Desk(0, 100).fill("<a/>");
        Due.yes("first key", desk.gate().key(0, 65521, 2));
        Due.yes("trust leaves the private key", desk.gate().trust(0, 70000, 5));
        Due.is("seal", desk.gate().seal(0, 0), Oracle.power(Oracle.digestOf("<a></a>"), 2, 65521));
        Due.yes("second key", desk.gate().key(0, 65537, 3));
        Due.is("seal again", desk.gate().seal(0, 0), Oracle.power(Oracle.digestOf("<a></a>"), 3, 65537));
    }

    public static void main(String[] args) {
        forms();
        attributes();
        sigs();
        wrapAround();
        numbering();
        sealers();
        whereThereIsNone();
        powers();
        Due.end();
    }
}
