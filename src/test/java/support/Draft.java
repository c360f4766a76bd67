/** A response that can be altered part by part before it is signed. */
final class Draft {
    String id = "r0";
    String irt = "0";
    String to = "acs";
    String iss = "p0";
    String stat = "ok";
    String assnId = "zz";
    String assnIss = "p0";
    String user = "u7";
    String confIrt = "0";
    String confNoa = "10";
    String rcp = "acs";
    String aud = "sp";
    String nb = "0";
    String noa = "10";
    String respExtra = "";
    String assnExtra = "";
    String subjExtra = "";
    boolean signAssn = true;
    boolean signResp = false;
    int offBy = 0;

    private static String attribute(String name, String value) {
        return " " + name + "=\"" + value + "\"";
    }

    private String form() {
        return "<resp" + attribute("id", id) + attribute("irt", irt) + attribute("to", to) + "><iss>" + iss
            + "</iss><stat>" + stat + "</stat>" + respExtra + "<assn" + attribute("id", assnId) + "><iss>" + assnIss
            + "</iss><subj><name>" + user + "</name><conf" + attribute("irt", confIrt) + attribute("noa", confNoa)
            + attribute("rcp", rcp) + "/>" + subjExtra + "</subj><cond" + attribute("aud", aud)
            + attribute("nb", nb) + attribute("noa", noa) + "/>" + assnExtra + "@</assn>#</resp>";
    }

    private String sig(String ref, Oracle.Node node) {
        int v = Oracle.power(node.digest(), Desk.PRIVATE_EXPONENT, Desk.MODULUS) + offBy;
        return "<sig" + attribute("ref", ref) + attribute("v", "" + v) + "/>";
    }

    String text() {
        String form = form();
        Oracle.Node bare = Oracle.read(form.replace("@", "").replace("#", "")).get(0);
        form = form.replace("@", signAssn ? sig(assnId, bare.only("assn")) : "");
        Oracle.Node whole = Oracle.read(form.replace("#", "")).get(0);
        return form.replace("#", signResp ? sig(id, whole) : "");
    }
}
