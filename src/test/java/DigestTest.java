/** Promises 16 and 17: digest and seal, over the canonical form. */
public final class DigestTest {
    private static int digestOfText(String canonical) {
        int digest = 0;
        for (int i = 0; i < canonical.length(); i++) {
            digest = (digest * 257 + canonical.charAt(i)) % 65521;
        }
        return digest;
    }

    private static void isForm(String text, int k, String canonical) {
        Due.is("digest " + k + " of " + text, new Desk(0, 100).fill(text).gate().digest(k), digestOfText(canonical));
    }

    private static void forms() {
        isForm("<a/>", 0, "<a></a>");
        isForm("<a></a>", 0, "<a></a>");
        isForm("<a  ></a  >", 0, "<a></a>");
        isForm("<a> x </a>", 0, "<a> x </a>");
        isForm("<a>x<!-- y -->z</a>", 0, "<a>xz</a>");
        isForm("<a><!----></a>", 0, "<a></a>");
        isForm("<a><!-- <b/> --><b/></a>", 0, "<a><b></b></a>");
        isForm("<a><!-- <b/> --><c/></a>", 1, "<c></c>");
        isForm("<a>x<b>y</b>z</a>", 0, "<a>x<b>y</b>z</a>");
        isForm("<a>x<b>y</b>z</a>", 1, "<b>y</b>");
        isForm("<a><b><c/></b><d/></a>", 3, "<d></d>");
        isForm("<a><b><c/></b><d/></a>", 1, "<b><c></c></b>");
        isForm("<a>></a>", 0, "<a>></a>");
    }

    private static void attributes() {
        isForm("<a   b=\"1\"   />", 0, "<a b=\"1\"></a>");
        isForm("<a c=\"2\" b=\"1\"/>", 0, "<a b=\"1\" c=\"2\"></a>");
        isForm("<a bb=\"2\" b=\"1\"/>", 0, "<a b=\"1\" bb=\"2\"></a>");
        isForm("<a c=\"3\" bb=\"2\" b=\"1\" ba=\"4\"/>", 0, "<a b=\"1\" ba=\"4\" bb=\"2\" c=\"3\"></a>");
        isForm("<a d=\"1\" c=\"2\" b=\"3\" a=\"4\"/>", 0, "<a a=\"4\" b=\"3\" c=\"2\" d=\"1\"></a>");
        isForm("<a b=\" > ' = \"/>", 0, "<a b=\" > ' = \"></a>");
        isForm("<a><b d=\"\" c=\"\"/></a>", 0, "<a><b c=\"\" d=\"\"></b></a>");
    }

    private static void sigs() {
        isForm("<a><sig/></a>", 0, "<a></a>");
        isForm("<a>x<sig ref=\"a\">y<b/><!-- z --></sig>w<b/></a>", 0, "<a>xw<b></b></a>");
        isForm("<a><sig/>x<sig></sig></a>", 0, "<a>x</a>");
        isForm("<a><sig/></a>", 1, "<sig></sig>");
        isForm("<a><b><sig/></b></a>", 0, "<a><b><sig></sig></b></a>");
        isForm("<a><b><sig/></b></a>", 1, "<b></b>");
        isForm("<sig><sig><sig/></sig></sig>", 0, "<sig></sig>");
        isForm("<a><sigs/><si/></a>", 0, "<a><sigs></sigs><si></si></a>");
        isForm("<a><sig><c/><d/></sig><b c=\"1\"/></a>", 0, "<a><b c=\"1\"></b></a>");
    }

    private static void whereThereIsNone() {
        Desk desk = new Desk(0, 100).fill("<a><b/></a>");
        Due.yes("key", desk.gate().key(2, 65521, 1));
        for (int k : new int[] {-1, 2, 20, Integer.MIN_VALUE, Integer.MAX_VALUE}) {
            Due.is("digest " + k, desk.gate().digest(k), -1);
            Due.is("seal of " + k, desk.gate().seal(2, k), -1);
        }
        for (int i : new int[] {-1, 0, 1, 3, 4, Integer.MIN_VALUE, Integer.MAX_VALUE}) {
            Due.is("seal by " + i, desk.gate().seal(i, 0), -1);
        }
        Due.is("seal with exponent 1", desk.gate().seal(2, 0), desk.gate().digest(0));
        desk.gate().write('x');
        Due.is("digest of no message", desk.gate().digest(0), -1);
        Due.is("seal of no message", desk.gate().seal(2, 0), -1);
        desk.fill("<a>&</a>");
        Due.is("digest of a banned text", desk.gate().digest(0), -1);
        Due.is("seal of a banned text", desk.gate().seal(2, 0), -1);
    }

    private static void powers() {
        int[][] keys = {{65521, 2}, {1000000, 1000000}, {999983, 999982}, {67591, 26829}, {999999, 524288}, {65522, 3}};
        for (int[] key : keys) {
            Desk desk = new Desk(0, 100).fill("<abc d=\"e\">fgh</abc>");
            Due.yes("key", desk.gate().key(3, key[0], key[1]));
            int digest = desk.gate().digest(0);
            Due.is("seal", desk.gate().seal(3, 0), Oracle.power(digest, key[1], key[0]));
        }
        Desk desk = new Desk(0, 100).fill("<a/>");
        Due.yes("first key", desk.gate().key(0, 65521, 2));
        Due.yes("trust leaves the private key", desk.gate().trust(0, 70000, 5));
        Due.is("seal", desk.gate().seal(0, 0), Oracle.power(digestOfText("<a></a>"), 2, 65521));
        Due.yes("second key", desk.gate().key(0, 65537, 3));
        Due.is("seal again", desk.gate().seal(0, 0), Oracle.power(digestOfText("<a></a>"), 3, 65537));
    }

    public static void main(String[] args) {
        forms();
        attributes();
        sigs();
        whereThereIsNone();
        powers();
        Due.end();
    }
}
