/** Promise 15: elements. Each rule of the GRAMMAR, just inside and just outside. */
public final class GrammarTest {
    private static void counts(String text, int want) {
        Due.is("elements of " + text, new Desk(0, 100).fill(text).gate().elements(), want);
        // A text is consumed only when it is read: -1 and -2 are the same answers there.
        if (want < 0) {
            Due.is("consume of " + text, new Desk(0, 100).fill(text).gate().consume(), want);
            Due.is("digest of " + text, new Desk(0, 100).fill(text).gate().digest(0), -1);
        }
    }

    private static void inside(int want, String... texts) {
        for (String text : texts) {
            counts(text, want);
        }
    }

    private static void banned(String... texts) {
        inside(-1, texts);
    }

    private static void outside(String... texts) {
        inside(-2, texts);
    }

    /** "A text is BANNED if it has anywhere a character &" */
    private static void ampersand() {
        banned("&", "&<a/>", "<&a/>", "<a&/>", "<a &/>", "<a b&=\"\"/>", "<a b=&\"\"/>", "<a b=\"&\"/>", "<a>&</a>",
            "<a><!--&--></a>", "<a><!-- & --></a>", "<a></&a>", "<a/>&", "no message &", "<a>&amp;</a>");
        banned("<a>" + "x".repeat(396) + "&", "&" + "x".repeat(399));
        inside(1, "<a>%'</a>", "<a b=\"%'\"/>");
    }

    /** "or < followed by ?" */
    private static void question() {
        banned("<?", "<a><?b?></a>", "<a><!-- <? --></a>", "<a b=\"<?\"/>", "x".repeat(398) + "<?");
        inside(1, "<a>?</a>", "<a b=\"?\"/>", "<a><!--?--></a>", "<a><!--< ?--></a>");
        outside("?", "< ?", "<a>< ?</a>", "?<", "<>", "<@");
    }

    /** "or < followed by ! that is not followed by two characters - (at once)" */
    private static void exclamation() {
        banned("<!", "<!-", "<!x--", "<!-x-", "<! --", "<!- -", "<a><!></a>", "<a><!b></a>", "<a><!- - x --></a>",
            "<a><!-x--></a>", "<a><!x-->", "<a><!-- <! --></a>", "<a><!-- <!- x --></a>", "<a b=\"<!\"/>",
            "no message <!", "<a><!DOCTYPE a></a>", "x".repeat(398) + "<!", "x".repeat(397) + "<!-");
        outside("<!--", "x".repeat(396) + "<!--", "!", "< !", "!<", "<a b=\"<!--\"/>");
        inside(1, "<a>!</a>", "<a b=\"!\"/>", "<a>? !</a>", "<a b=\"!?\"/>", "<a><!----></a>");
    }

    /** "A text that is not banned is a MESSAGE if it is, from its first to its last character, one element" */
    private static void oneElement() {
        inside(1, "<a/>", "<a></a>");
        outside("xa/>", " a/>", ">a></a>", "aa/>", "\"a/>", "/a></a>");
        outside("", " ", "a", "<", ">", " <a/>", "x<a/>", "<a/> ", "<a/>x", "<a></a>x", "<a></a> ", "<a/><b/>",
            "<a></a><b></b>", "<!-- x --><a/>", "<a/><!-- x -->", "<!---->", "<a><!-- --></a><!-- -->", "</a>",
            "<a></a></a>");
        outside("<a>", "<a><b></b>", "<a", "<a/", "<a></a", "<a></", "<a><", "<a ", "<a b", "<a b=", "<a b=\"",
            "<a b=\"x", "<a b=\"x\"");
    }

    /** "with at most 20 elements in all (itself counted)" */
    private static void mostElements() {
        inside(19, "<a>" + "<b/>".repeat(18) + "</a>");
        inside(20, "<a>" + "<b/>".repeat(19) + "</a>", "<a>" + "<b></b>".repeat(19) + "</a>",
            "<a>" + "<b><c/></b>".repeat(9) + "<c/></a>");
        outside("<a>" + "<b/>".repeat(20) + "</a>", "<a>" + "<b></b>".repeat(20) + "</a>",
            "<a>" + "<b><c/></b>".repeat(10) + "</a>", "<a>" + "<b/>".repeat(98) + "</a>");
        inside(16, "<a>" + nested(5).repeat(3) + "</a>");
    }

    private static String nested(int depth) {
        return "<a>".repeat(depth) + "</a>".repeat(depth);
    }

    private static String nestedTo(int depth, String last) {
        return "<a>".repeat(depth - 1) + last + "</a>".repeat(depth - 1);
    }

    /** "and elements at most 6 deep (itself: 1)" */
    private static void deepest() {
        inside(6, nested(6), nestedTo(6, "<b/>"));
        inside(7, nestedTo(6, "<b/><b/>"), "<a>" + nested(5) + "<b/></a>");
        outside(nested(7), nestedTo(7, "<b/>"), nestedTo(6, "<b/><b><c/></b>"), "<a>" + nested(6) + "</a>", nested(57));
        inside(1, "<a><!-- <b><b><b><b><b><b> --></a>");
    }

    /** "A NAME is 1 .. 6 letters a .. z, taken as long as letters go on." */
    private static void names() {
        inside(1, "<a/>", "<z/>", "<abcdef/>", "<uvwxyz/>", "<a></a>", "<az></az>", "<abcdef></abcdef>", "<a b=\"\"/>",
            "<a z=\"\"/>", "<a bcdefg=\"1\"/>");
        outside("</>", "<></>", "<abcdefg/>", "<abcdefg></abcdefg>", "<abcdef></abcdefg>", "<abcdefg></abcdef>",
            "<a bcdefgh=\"1\"/>", "<a =\"x\"/>", "<a b=\"1\" =\"x\"/>");
        outside("<A/>", "<Z/>", "<`/>", "<{/>", "<aA/>", "<a1/>", "<1/>", "<a-b/>", "<a`/>", "<a{/>", "< a/>",
            "<a B=\"1\"/>", "<a `=\"1\"/>", "<a {=\"1\"/>", "<a b{=\"1\"/>", "<a b1=\"1\"/>", "<a b`=\"1\"/>");
    }

    /** "content  </  the same NAME  any number of spaces  >" */
    private static void endTags() {
        inside(1, "<a></a>", "<a></a >", "<a></a   >", "<ab></ab>", "<a></a" + " ".repeat(393) + ">");
        outside("<a></b>", "<a></aa>", "<aa></a>", "<ab></aa>", "<ab></bb>", "<a></>", "<a></ >", "<a></ a>",
            "<a>< /a>", "<a></a/>", "<a></a x>", "<a></a b=\"\">", "<a b=\"\"></a b=\"\">", "<a><b></a></b>",
            "<a><b></a>", "<a></b></a>", "<a></a<!-- -->>");
        outside("<a></a.", "<a></a/", "<a></a =", "<a></a<", "<a></a?", "<a><b></b.</a>", "<a><b></b </a>");
    }

    /** "<  NAME  attributes  /> , or  <  NAME  attributes  >" */
    private static void startTags() {
        inside(1, "<a/>", "<a />", "<a></a>", "<a ></a>", "<a   ></a>", "<a" + " ".repeat(396) + "/>");
        outside("<a/ >", "<a / >", "<a//>", "<a/></a>", "<a<b/>", "<a!>", "<a/b>", "<a.>");
        outside("<a.</a>", "<a/</a>", "<a =</a>", "<a b</a>", "<a b=\"\".</a>", "<a <</a>", "<a?</a>", "<a b=\"\"/</a>", "<a/.");
        inside(1, "<a>></a>", "<a>/></a>");
    }

    /** "attributes: none to 4" */
    private static void mostAttributes() {
        inside(1, "<a/>", "<a b=\"1\"/>", "<a b=\"1\" c=\"2\" d=\"3\"/>", "<a d=\"1\" c=\"2\" b=\"3\" a=\"4\"/>",
            "<a a=\"1\" b=\"2\" c=\"3\" d=\"4\"></a>");
        outside("<a e=\"0\" d=\"1\" c=\"2\" b=\"3\" a=\"4\"/>", "<a a=\"0\" b=\"1\" c=\"2\" d=\"3\" e=\"4\"></a>",
            "<a a=\"0\" b=\"1\" c=\"2\" d=\"3\" e=\"4\" f=\"5\"/>");
        inside(2, "<a a=\"1\" b=\"2\" c=\"3\" d=\"4\"><a a=\"1\" b=\"2\" c=\"3\" d=\"4\"/></a>");
    }

    /** "of different names" */
    private static void differentNames() {
        inside(1, "<a b=\"1\" bb=\"2\"/>", "<a bb=\"1\" b=\"2\"/>", "<a b=\"1\" c=\"1\"/>", "<a a=\"1\"/>",
            "<a ab=\"1\" ac=\"2\" bb=\"3\" bc=\"4\"/>");
        inside(2, "<a b=\"1\"><b b=\"1\"/></a>");
        outside("<a b=\"1\" b=\"2\"/>", "<a b=\"1\" b=\"1\"/>", "<a b=\"1\" c=\"2\" b=\"1\"/>",
            "<a c=\"1\" b=\"2\" b=\"1\"/>", "<a c=\"1\" d=\"2\" b=\"1\" d=\"2\"/>",
            "<a b=\"1\" c=\"2\" d=\"3\" b=\"4\"/>", "<a c=\"1\" d=\"2\" b=\"3\" b=\"4\"/>",
            "<a bcdefg=\"1\" bcdefg=\"2\"></a>");
    }

    /** "each: one or more spaces, NAME, =, ", a VALUE, "" */
    private static void attributeForms() {
        inside(1, "<a b=\"1\"/>", "<a  b=\"1\"/>", "<a b=\"1\" c=\"2\"/>", "<a b=\"1\"   c=\"2\"/>",
            "<a" + " ".repeat(391) + "b=\"\"/>");
        outside("<ab=\"1\"/>", "<a b=\"1\"c=\"2\"/>", "<a b=x/>", "<a b='x'/>", "<a b=x\"/>", "<a b=x\"y\"/>",
            "<a b:\"x\"/>", "<a b\"x\"/>", "<a b/>", "<a b=/>", "<a b =\"x\"/>", "<a b= \"x\"/>", "<a b==\"x\"/>",
            "<a b=\"x/>", "<a b=\"1\"<!-- x -->/>", "<a \"x\"/>");
    }

    /** "Behind the last of them, or behind the element's NAME if there is none, any number of spaces." */
    private static void spacesBehind() {
        inside(1, "<a b=\"\"/>", "<a b=\"\" />", "<a b=\"\"   ></a>", "<a   b=\"x y>'/=\"   ></a>",
            "<a b=\"\"" + " ".repeat(391) + "/>", "<a />", "<a  ></a>", "<a a=\"1\" b=\"2\" c=\"3\" d=\"4\"  />");
        outside("<a b=\"\" x/>", "<a b=\"\" / >", "<a b=\"\".>", "<a b=\"\"/");
    }

    /** "A VALUE is any number of characters other than < and "." */
    private static void values() {
        inside(1, "<a b=\"\"/>", "<a b=\"x\"/>", "<a b=\" \"/>", "<a b=\"!#;=>/'--~\"/>",
            "<a b=\"" + "x".repeat(391) + "\"/>");
        outside("<a b=\"<\"/>", "<a b=\"x<\"/>", "<a b=\"<c/>\"/>", "<a b=\"\"\"/>", "<a b=\"x\"y\"/>",
            "<a b=\"<!-- -->\"/>");
        outside("<a b=\"</>", "<a b=\"x</>", "<a b=\"<></a>", "<a b=\"x<></a>", "<a b=\"< c=\"\"/>");
    }

    /** "content: any number of characters other than <, elements, and comments." */
    private static void contents() {
        inside(1, "<a></a>", "<a>x</a>", "<a> \"=>;/-- ~</a>", "<a>--></a>", "<a>" + "x".repeat(393) + "</a>",
            "<a>" + "<!---->".repeat(56) + "x</a>");
        inside(3, "<a>x<b/>y<!-- z --><c></c>w</a>");
        inside(2, "<a><!-- x --><b/><!-- y --></a>");
        outside("<a><</a>", "<a>< b/></a>", "<a>x<1</a>", "<a><></a>");
    }

    /** "A comment: <!-- , any characters among which no two - follow one another, -->" */
    private static void comments() {
        inside(1, "<a><!----></a>", "<a><!-- --></a>", "<a><!--x--></a>", "<a><!--- x --></a>", "<a><!-- - - --></a>",
            "<a><!---> --></a>", "<a><!--> --></a>", "<a><!-- <b> </a> \" > --></a>", "<a><!-- < --></a>",
            "<a><!--" + "- ".repeat(193) + "--></a>");
        outside("<a><!-- -- --></a>", "<a><!-- --x--></a>", "<a><!--x-- >--></a>", "<a><!-- <!-- --> --></a>",
            "<a><!----", "<a><!-- </a>", "<a><!-- --", "<a><!-- -", "<a><!-- -- </a>", "<a><!--></a>", "<a><!---></a>",
            "<a><!-- -></a>", "<a><!-- --x></a>");
    }

    /** "the characters between may not end with -" */
    private static void commentEnds() {
        inside(1, "<a><!--x- --></a>", "<a><!---x--></a>");
        outside("<a><!--x---></a>", "<a><!-----></a>", "<a><!-- ---></a>", "<a><!------></a>", "<a><!--- ---></a>");
    }

    /** A text that was no message leaves nothing behind for the next one, nor does one that was. */
    private static void oneAfterAnother() {
        String[] texts = {"<a>".repeat(6), nested(6), "<a>" + "<b/>".repeat(20), "<a>" + "<b/>".repeat(19) + "</a>",
            "<a b=\"1\"", "<a b=\"1\" c=\"2\" d=\"3\" e=\"4\"/>", "&", "<a>".repeat(7), nested(6), "<a></b>", "<a b=\"2\"/>", ""};
        int[] want = {-2, 6, -2, 20, -2, 1, -1, -2, 6, -2, 1, -2};
        Desk desk = new Desk(0, 100);
        for (int i = 0; i < texts.length; i++) {
            Due.is("elements of " + texts[i], desk.fill(texts[i]).gate().elements(), want[i]);
        }
    }

    private static void changesNothing() {
        Desk desk = new Desk(0, 100).fill("<a><b/></a>");
        Due.is("elements", desk.gate().elements(), 2);
        Due.is("elements again", desk.gate().elements(), 2);
        Due.is("the text stays", desk.text(), "<a><b/></a>");
    }

    public static void main(String[] args) {
        ampersand();
        question();
        exclamation();
        oneElement();
        mostElements();
        deepest();
        names();
        endTags();
        startTags();
        mostAttributes();
        differentNames();
        attributeForms();
        spacesBehind();
        values();
        contents();
        comments();
        commentEnds();
        oneAfterAnother();
        changesNothing();
        Due.end();
    }
}
