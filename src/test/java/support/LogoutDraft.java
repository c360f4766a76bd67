import java.util.List;

/** A logout that can be altered part by part before it is signed. */
final class LogoutDraft {
    String id = "o1";
    String to = "acs";
    String iss = "p0";
    String user = "u7";
    String extra = "";
    boolean isSigned = true;
    int offBy = 0;
    private String was = "";
    private String becomes = "";

    /** What the form has of 'from' becomes 'to' before it is signed. */
    LogoutDraft alter(String from, String to) {
        was = from;
        becomes = to;
        return this;
    }

    private String form() {
        String form = "<out id=\"" + id + "\" to=\"" + to + "\"><iss>" + iss + "</iss><name>" + user + "</name>" + extra
            + "@</out>";
        Due.yes("the form has " + was, form.contains(was));
        return form.replace(was.isEmpty() ? "\n" : was, becomes);
    }

    String text() {
        String form = form();
        List<Oracle.Node> nodes = Oracle.read(form.replace("@", ""));
        int digest = nodes == null ? 0 : nodes.get(0).digest();
        int v = Oracle.power(digest, Desk.PRIVATE_EXPONENT, Desk.MODULUS) + offBy;
        return form.replace("@", isSigned ? "<sig ref=\"" + id + "\" v=\"" + v + "\"/>" : "");
    }
}
