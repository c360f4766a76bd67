import java.util.List;

/** A response that can be altered part by part before it is signed. */
final class Draft {
    String id = "r0";
    String irt = "0";
    String to = "acs";
    String iss = "p0";
    String stat = "ok";
    String assnId = "zz";
    String assnIss = "p0";
    String user = "u7";
    String confIrt = "0";
    String confNoa = "10";
    String rcp = "acs";
    String aud = "sp";
    String nb = "0";
    String noa = "10";
    String respExtra = "";
    String assnExtra = "";
    String subjExtra = "";
    boolean signAssn = true;
    boolean signResp = false;
    int offBy = 0;
    int respOffBy = 0;
    private String was = "";
    private String becomes = "";

    /** What the form has of 'from' becomes 'to' before anything is signed. */
    Draft alter(String from, String to) {
        was = from;
        becomes = to;
        return this;
    }

    Draft signed(boolean assn, boolean resp) {
        signAssn = assn;
        signResp = resp;
        return this;
    }

    Draft asks(String number) {
        irt = number;
        confIrt = number;
        return this;
    }

    private static String attribute(String name, String value) {
        return " " + name + "=\"" + value + "\"";
    }

    private String form() {
        String form = "<resp" + attribute("id", id) + attribute("irt", irt) + attribute("to", to) + "><iss>" + iss
            + "</iss><stat>" + stat + "</stat>" + respExtra + "<assn" + attribute("id", assnId) + "><iss>" + assnIss
            + "</iss><subj><name>" + user + "</name><conf" + attribute("irt", confIrt) + attribute("noa", confNoa)
            + attribute("rcp", rcp) + "/>" + subjExtra + "</subj><cond" + attribute("aud", aud)
            + attribute("nb", nb) + attribute("noa", noa) + "/>" + assnExtra + "@</assn>#</resp>";
        Due.yes("the form has " + was, form.contains(was));
        return form.replace(was.isEmpty() ? "\n" : was, becomes);
    }

    /** A form without that element is refused for its shape, whatever its sig says. */
    private static int digestOf(String form, String name) {
        List<Oracle.Node> nodes = Oracle.read(form.replace("@", "").replace("#", ""));
        for (Oracle.Node node : nodes == null ? List.<Oracle.Node>of() : nodes) {
            if (node.name.equals(name)) {
                return node.digest();
            }
        }
        return 0;
    }

    private static String sig(String ref, int digest, int off) {
        int v = Oracle.power(digest, Desk.PRIVATE_EXPONENT, Desk.MODULUS) + off;
        return "<sig" + attribute("ref", ref) + attribute("v", "" + v) + "/>";
    }

    String text() {
        String form = form();
        form = form.replace("@", signAssn ? sig(assnId, digestOf(form, "assn"), offBy) : "");
        return form.replace("#", signResp ? sig(id, digestOf(form, "resp"), respOffBy) : "");
    }
}
