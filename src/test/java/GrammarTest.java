/** Promise 15: elements, with every rule of the grammar. */
public final class GrammarTest {
    private static void counts(String text, int want) {
        Due.is("elements of " + text, new Desk(0, 100).fill(text).gate().elements(), want);
        // A text is consumed only when it is read: -1 and -2 are the same answers there.
        if (want < 0) {
            Due.is("consume of " + text, new Desk(0, 100).fill(text).gate().consume(), want);
            Due.is("digest of " + text, new Desk(0, 100).fill(text).gate().digest(0), -1);
        }
    }

    private static void banned() {
        counts("&", -1);
        counts("<a>&</a>", -1);
        counts("<a b=\"&\"/>", -1);
        counts("<a/>&", -1);
        counts("<a><!-- & --></a>", -1);
        counts("<?", -1);
        counts("<a><?b?></a>", -1);
        counts("<!", -1);
        counts("<!-", -1);
        counts("<!x--", -1);
        counts("<!-x-", -1);
        counts("<a><!b></a>", -1);
        counts("<a><!- - x --></a>", -1);
        counts("<a><!-- <! --></a>", -1);
        counts("<a><!-- <? --></a>", -1);
        counts("no message <!", -1);
        counts("<a>? !</a>", 1);
        counts("<a b=\"!?\"/>", 1);
    }

    private static void outside() {
        counts("", -2);
        counts("a", -2);
        counts("<", -2);
        counts(" <a/>", -2);
        counts("<a/> ", -2);
        counts("<a/><b/>", -2);
        counts("<a></a>x", -2);
        counts("<!-- x --><a/>", -2);
        counts("<a/><!-- x -->", -2);
        counts("<!---->", -2);
        counts("</a>", -2);
        counts("<a></a></a>", -2);
        counts("<a>", -2);
        counts("<a><b></b>", -2);
        counts("<a", -2);
        counts("<a/", -2);
        counts("<a></a", -2);
        counts("<a></", -2);
        counts("<a><", -2);
    }

    private static void names() {
        counts("<abcdef/>", 1);
        counts("<abcdefg/>", -2);
        counts("<a></a>", 1);
        counts("<az></az>", 1);
        counts("<A/>", -2);
        counts("<a1/>", -2);
        counts("< a/>", -2);
        counts("</>", -2);
        counts("<{/>", -2);
        counts("<`/>", -2);
        counts("<a></b>", -2);
        counts("<a></aa>", -2);
        counts("<aa></a>", -2);
        counts("<a></ a>", -2);
        counts("<a></a   >", 1);
        counts("<abcdef></abcdefg>", -2);
        counts("<a><b></a></b>", -2);
        counts("<a b=\"\"></a b=\"\">", -2);
    }

    private static void attributes() {
        counts("<a />", 1);
        counts("<a   ></a>", 1);
        counts("<a/ >", -2);
        counts("<a / >", -2);
        counts("<a b=\"\"/>", 1);
        counts("<a b=\"\" />", 1);
        counts("<a   b=\"x y>'/=\"   ></a>", 1);
        counts("<a b=\"<\"/>", -2);
        counts("<a b=\"\"\"/>", -2);
        counts("<a b=\"x/>", -2);
        counts("<a b=x/>", -2);
        counts("<a b='x'/>", -2);
        counts("<a b=x\"/>", -2);
        counts("<a b=x\"y\"/>", -2);
        counts("<a b:\"x\"/>", -2);
        counts("<a b\"x\"/>", -2);
        counts("<a b/>", -2);
        counts("<a b=/>", -2);
        counts("<a b =\"x\"/>", -2);
        counts("<a b= \"x\"/>", -2);
        counts("<a =\"x\"/>", -2);
        counts("<a b=\"1\"c=\"2\"/>", -2);
        counts("<a b=\"1\" b=\"2\"/>", -2);
        counts("<a b=\"1\" c=\"2\" b=\"1\"/>", -2);
        counts("<a c=\"1\" d=\"2\" b=\"1\" d=\"2\"/>", -2);
        counts("<a b=\"1\" bb=\"2\"/>", 1);
        counts("<a a=\"1\"/>", 1);
        counts("<a d=\"1\" c=\"2\" b=\"3\" a=\"4\"/>", 1);
        counts("<a e=\"0\" d=\"1\" c=\"2\" b=\"3\" a=\"4\"/>", -2);
        counts("<a bcdefg=\"1\"/>", 1);
        counts("<a bcdefgh=\"1\"/>", -2);
        counts("<a B=\"1\"/>", -2);
        counts("<a b=\"1\"><b b=\"1\"/></a>", 2);
    }

    private static void comments() {
        counts("<a><!----></a>", 1);
        counts("<a><!-- --></a>", 1);
        counts("<a><!-- <b> </a> \" > --></a>", 1);
        counts("<a><!-- - - --></a>", 1);
        counts("<a><!---> --></a>", 1);
        counts("<a><!--- x --></a>", 1);
        counts("<a><!-- -- --></a>", -2);
        counts("<a><!-- ---></a>", -2);
        counts("<a><!-----></a>", -2);
        counts("<a><!------></a>", -2);
        counts("<a><!--></a>", -2);
        counts("<a><!---></a>", -2);
        counts("<a><!-- <!-- --> --></a>", -2);
        counts("<a><!-- </a>", -2);
        counts("<a><!-- --", -2);
        counts("<a><!-- -", -2);
        counts("<a><!-- --></a><!-- -->", -2);
        counts("<a><!-- x --><b/><!-- y --></a>", 2);
        counts("<a b=\"1\"<!-- x -->/>", -2);
        counts("<a>--></a>", 1);
    }

    private static String nested(int depth) {
        return "<a>".repeat(depth) + "</a>".repeat(depth);
    }

    private static void limits() {
        counts(nested(6), 6);
        counts(nested(7), -2);
        counts("<a>".repeat(6) + "<b/>" + "</a>".repeat(6), -2);
        counts("<a>".repeat(5) + "<b/>" + "</a>".repeat(5), 6);
        counts("<a>" + "<b/>".repeat(19) + "</a>", 20);
        counts("<a>" + "<b/>".repeat(20) + "</a>", -2);
        counts("<a>" + "<b></b>".repeat(19) + "</a>", 20);
        counts("<a>" + "<b></b>".repeat(20) + "</a>", -2);
        counts("<a>" + nested(5).repeat(3) + "</a>", 16);
        counts("<a>" + "<!---->".repeat(30) + "</a>", 1);
        counts("<a>" + "x".repeat(393) + "</a>", 1);
        counts("<a b=\"" + "x".repeat(391) + "\"/>", 1);
        counts("<a" + " ".repeat(396) + "/>", 1);
    }

    private static void changesNothing() {
        Desk desk = new Desk(0, 100).fill("<a><b/></a>");
        Due.is("elements", desk.gate().elements(), 2);
        Due.is("elements again", desk.gate().elements(), 2);
        Due.is("the text stays", desk.text(), "<a><b/></a>");
    }

    public static void main(String[] args) {
        banned();
        outside();
        names();
        attributes();
        comments();
        limits();
        changesNothing();
        Due.end();
    }
}
