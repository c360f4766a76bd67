import java.math.BigInteger;
import java.util.ArrayList;
import java.util.HashSet;
import java.util.List;
import java.util.Set;
import java.util.TreeMap;
import java.util.regex.Matcher;
import java.util.regex.Pattern;

/** The document said a second time, with trees, patterns and strings, to hold the program against. */
final class Oracle {
    private static final Pattern BANNED = Pattern.compile("&|<\\?|<!(?!--)");
    private static final Pattern START =
        Pattern.compile("<([a-z]{1,6})((?: +[a-z]{1,6}=\"[^<\"]*\"){0,4}) *(/?)>");
    private static final Pattern ATTRIBUTE = Pattern.compile(" +([a-z]{1,6})=\"([^<\"]*)\"");
    private static final Pattern COMMENT = Pattern.compile("<!--(?:[^-]|-[^-])*-->");
    private static final Pattern END = Pattern.compile("</([a-z]{1,6}) *>");

    static final class Node {
        String name;
        int from;
        int to;
        String content = "";
        final TreeMap<String, String> attributes = new TreeMap<>();
        final List<Object> parts = new ArrayList<>();

        List<Node> children(String wanted) {
            List<Node> found = new ArrayList<>();
            for (Object part : parts) {
                if (part instanceof Node && ((Node) part).name.equals(wanted)) {
                    found.add((Node) part);
                }
            }
            return found;
        }

        Node only(String wanted) {
            List<Node> found = children(wanted);
            return found.size() == 1 ? found.get(0) : null;
        }

        String word() {
            return content.matches("[^<]{1,8}") ? content : null;
        }

        String get(String attribute) {
            return attributes.get(attribute);
        }

        String canonical(boolean withSigs) {
            StringBuilder all = new StringBuilder("<" + name);
            attributes.forEach((a, v) -> all.append(" " + a + "=\"" + v + "\""));
            all.append(">");
            for (Object part : parts) {
                if (part instanceof Node) {
                    Node child = (Node) part;
                    all.append(withSigs || !child.name.equals("sig") ? child.canonical(true) : "");
                } else {
                    all.append(part);
                }
            }
            return all + "</" + name + ">";
        }

        int digest() {
            return digestOf(canonical(false));
        }
    }

    static int digestOf(String canonical) {
        long digest = 0;
        for (int i = 0; i < canonical.length(); i++) {
            digest = (digest * 257 + canonical.charAt(i)) % 65521;
        }
        return (int) digest;
    }

    /** Reads a text into its elements in the order in which they begin. */
    private static final class Parse {
        final String text;
        final List<Node> nodes = new ArrayList<>();
        int p = 0;

        Parse(String text) {
            this.text = text;
        }

        Matcher next(Pattern pattern) {
            Matcher m = pattern.matcher(text).region(p, text.length());
            if (m.lookingAt()) {
                p = m.end();
                return m;
            }
            return null;
        }

        Node element(int depth) {
            int from = p;
            Matcher start = next(START);
            if (start == null || depth > 6 || nodes.size() == 20) {
                return null;
            }
            Node node = new Node();
            node.name = start.group(1);
            node.from = from;
            nodes.add(node);
            Matcher attribute = ATTRIBUTE.matcher(start.group(2));
            while (attribute.find()) {
                if (node.attributes.put(attribute.group(1), attribute.group(2)) != null) {
                    return null;
                }
            }
            if (start.group(3).isEmpty() && !content(node, depth)) {
                return null;
            }
            node.to = p;
            return node;
        }

        boolean content(Node node, int depth) {
            int from = p;
            while (p < text.length()) {
                if (text.charAt(p) != '<') {
                    node.parts.add(text.substring(p, p + 1));
                    p++;
                } else if (text.startsWith("</", p)) {
                    node.content = text.substring(from, p);
                    Matcher end = next(END);
                    return end != null && end.group(1).equals(node.name);
                } else if (text.startsWith("<!", p)) {
                    if (next(COMMENT) == null) {
                        return false;
                    }
                } else {
                    Node child = element(depth + 1);
                    if (child == null) {
                        return false;
                    }
                    node.parts.add(child);
                }
            }
            return false;
        }
    }

    static boolean isBanned(String text) {
        return BANNED.matcher(text).find();
    }

    /** The elements of a message; null if the text is none. */
    static List<Node> read(String text) {
        Parse parse = new Parse(text);
        if (isBanned(text) || parse.element(1) == null || parse.p != text.length()) {
            return null;
        }
        return parse.nodes;
    }

    static int power(int b, int x, int n) {
        return BigInteger.valueOf(b).modPow(BigInteger.valueOf(x), BigInteger.valueOf(n)).intValue();
    }

    private final int skew;
    private final int life;
    private int clock = 0;
    private int issued = 0;
    String text = "";
    private String scrap = "";
    private final int[][] trusted = new int[4][];
    private final int[][] secret = new int[4][];
    private final List<int[]> requests = new ArrayList<>();
    private final Set<Integer> answered = new HashSet<>();
    private final List<String> sessionNames = new ArrayList<>();
    private final List<Integer> sessionIssuers = new ArrayList<>();
    private final Set<Integer> ended = new HashSet<>();
    private final Set<String> seen = new HashSet<>();

    Oracle(int skew, int life) {
        this.skew = skew < 0 || skew > 100 ? 0 : skew;
        this.life = life < 1 || life > 1000 ? 100 : life;
    }

    private static boolean in(int n, int low, int high) {
        return low <= n && n <= high;
    }

    private static boolean putKey(int[][] keys, int k, int n, int x) {
        if (!in(k, 0, 3) || !in(n, 65521, 1000000) || !in(x, 1, 1000000)) {
            return false;
        }
        keys[k] = new int[] {n, x};
        return true;
    }

    boolean trust(int k, int n, int e) {
        return putKey(trusted, k, n, e);
    }

    boolean key(int k, int n, int d) {
        return putKey(secret, k, n, d);
    }

    boolean pass(int n) {
        clock += in(n, 0, 1000) ? n : 0;
        return in(n, 0, 1000);
    }

    int request(int k) {
        if (!in(k, 0, 3) || requests.size() == 30) {
            return -1;
        }
        requests.add(new int[] {k, clock});
        return requests.size() - 1;
    }

    private boolean isOutstanding(int r) {
        return r < requests.size() && !answered.contains(r) && clock < requests.get(r)[1] + life;
    }

    int outstanding() {
        int count = 0;
        for (int r = 0; r < requests.size(); r++) {
            count += isOutstanding(r) ? 1 : 0;
        }
        return count;
    }

    private static String sig(String ref, int v) {
        return "<sig ref=\"" + ref + "\" v=\"" + v + "\"/>";
    }

    private int sealNode(int k, Node node) {
        return power(node.digest(), secret[k][1], secret[k][0]);
    }

    boolean issue(int k, int r, int u, int t, int how) {
        if (!in(k, 0, 3) || secret[k] == null || !in(r, 0, 99) || !in(u, 0, 99) || !in(t, 0, 999) || !in(how, 0, 3)) {
            return false;
        }
        String until = String.valueOf(clock + t);
        String form = ("<resp id=\"rX\" irt=\"R\" to=\"acs\"><iss>pK</iss><stat>ok</stat><assn id=\"aX\"><iss>pK</iss>"
            + "<subj><name>uU</name><conf irt=\"R\" noa=\"UNTIL\" rcp=\"acs\"/></subj>"
            + "<cond aud=\"sp\" nb=\"C\" noa=\"UNTIL\"/>@</assn>#</resp>")
            .replace("UNTIL", until).replace("X", "" + issued).replace("R", "" + r).replace("K", "" + k)
            .replace("U", "" + u).replace("C", "" + clock);
        String bare = form.replace("@", "").replace("#", "");
        String assnSig = how % 2 == 0 ? "" : sig("a" + issued, sealNode(k, read(bare).get(0).only("assn")));
        String signed = form.replace("@", assnSig);
        String respSig = how < 2 ? "" : sig("r" + issued, sealNode(k, read(signed.replace("#", "")).get(0)));
        text = signed.replace("#", respSig);
        issued++;
        return true;
    }

    boolean leave(int k, int u) {
        if (!in(k, 0, 3) || secret[k] == null || !in(u, 0, 99)) {
            return false;
        }
        String form = "<out id=\"o" + issued + "\" to=\"acs\"><iss>p" + k + "</iss><name>u" + u + "</name>@</out>";
        text = form.replace("@", sig("o" + issued, sealNode(k, read(form.replace("@", "")).get(0))));
        issued++;
        return true;
    }

    boolean write(char c) {
        if (!in(c, 32, 126) || text.length() == 400) {
            return false;
        }
        text += c;
        return true;
    }

    boolean set(int p, char c) {
        if (!in(p, 0, text.length() - 1) || !in(c, 32, 126)) {
            return false;
        }
        text = text.substring(0, p) + c + text.substring(p + 1);
        return true;
    }

    boolean cut(int p, int q) {
        if (p < 0 || q < p || q > text.length()) {
            return false;
        }
        scrap = text.substring(p, q);
        text = text.substring(0, p) + text.substring(q);
        return true;
    }

    boolean paste(int p) {
        if (!in(p, 0, text.length()) || text.length() + scrap.length() > 400) {
            return false;
        }
        text = text.substring(0, p) + scrap + text.substring(p);
        return true;
    }

    void clear() {
        text = "";
    }

    int length() {
        return text.length();
    }

    int at(int p) {
        return in(p, 0, text.length() - 1) ? text.charAt(p) : -1;
    }

    int elements() {
        return isBanned(text) ? -1 : read(text) == null ? -2 : read(text).size();
    }

    private Node nodeAt(int k) {
        List<Node> nodes = read(text);
        return nodes == null || !in(k, 0, nodes.size() - 1) ? null : nodes.get(k);
    }

    int digest(int k) {
        return nodeAt(k) == null ? -1 : nodeAt(k).digest();
    }

    int seal(int i, int k) {
        return !in(i, 0, 3) || secret[i] == null || nodeAt(k) == null ? -1 : sealNode(i, nodeAt(k));
    }

    private static boolean isNumber(String value) {
        return value != null && value.matches("[0-9]{1,9}");
    }

    private static boolean isKey(String value) {
        return value != null && in(value.length(), 1, 8);
    }

    private static boolean hasWord(Node node) {
        return node != null && node.word() != null;
    }

    private static boolean sigsStand(Node node) {
        List<Node> sigs = node.children("sig");
        return sigs.isEmpty() || sigs.size() == 1 && sigs.get(0).get("ref") != null && isNumber(sigs.get(0).get("v"));
    }

    private static boolean isResponse(Node resp) {
        Node assn = resp.only("assn");
        if (!resp.name.equals("resp") || !isKey(resp.get("id")) || resp.get("to") == null || resp.get("irt") == null
            || !hasWord(resp.only("iss")) || !hasWord(resp.only("stat")) || assn == null || !sigsStand(resp)) {
            return false;
        }
        Node cond = assn.only("cond");
        Node subj = assn.only("subj");
        if (!isKey(assn.get("id")) || !hasWord(assn.only("iss")) || cond == null || subj == null || !sigsStand(assn)) {
            return false;
        }
        Node conf = subj.only("conf");
        return cond.get("aud") != null && isNumber(cond.get("nb")) && isNumber(cond.get("noa"))
            && hasWord(subj.only("name")) && conf != null
            && conf.get("irt") != null && conf.get("rcp") != null && isNumber(conf.get("noa"));
    }

    private static boolean isLogout(Node out) {
        return out.name.equals("out") && isKey(out.get("id")) && out.get("to") != null
            && hasWord(out.only("iss")) && hasWord(out.only("name")) && sigsStand(out);
    }

    private int trustedBy(Node parent) {
        String word = parent.only("iss").word();
        int k = List.of("p0", "p1", "p2", "p3").indexOf(word);
        return k >= 0 && trusted[k] != null ? k : -1;
    }

    private boolean isValid(Node parent) {
        int k = trustedBy(parent);
        Node sig = parent.only("sig");
        if (k < 0 || !sig.get("ref").equals(parent.get("id"))) {
            return false;
        }
        int v = Integer.parseInt(sig.get("v"));
        return v < trusted[k][0] && power(v, trusted[k][1], trusted[k][0]) == parent.digest();
    }

    int consume() {
        List<Node> nodes = read(text);
        if (nodes == null) {
            return isBanned(text) ? -1 : -2;
        }
        List<String> ids = new ArrayList<>();
        for (Node node : nodes) {
            if (node.get("id") != null) {
                ids.add(node.get("id"));
            }
        }
        if (new HashSet<>(ids).size() < ids.size()) {
            return -3;
        }
        Node root = nodes.get(0);
        if (isResponse(root)) {
            return consumeResponse(root, root.only("assn"));
        }
        return isLogout(root) ? consumeLogout(root) : -4;
    }

    private int consumeResponse(Node resp, Node assn) {
        boolean respSigned = resp.only("sig") != null;
        boolean assnSigned = assn.only("sig") != null;
        Node cond = assn.only("cond");
        Node conf = assn.only("subj").only("conf");
        String irt = resp.get("irt");
        if (!respSigned && !assnSigned) {
            return -5;
        }
        if (respSigned && !isValid(resp) || assnSigned && !isValid(assn)) {
            return -6;
        }
        if (!resp.only("iss").word().equals(assn.only("iss").word())) {
            return -7;
        }
        if (!resp.get("to").equals("acs")) {
            return -8;
        }
        if (!resp.only("stat").word().equals("ok")) {
            return -9;
        }
        int k = trustedBy(resp);
        int r = isNumber(irt) ? Integer.parseInt(irt) : -1;
        if (r < 0 || !isOutstanding(r) || requests.get(r)[0] != k) {
            return -10;
        }
        if (!cond.get("aud").equals("sp")) {
            return -11;
        }
        if (Integer.parseInt(cond.get("nb")) > clock + skew || Integer.parseInt(cond.get("noa")) <= clock - skew) {
            return -12;
        }
        if (!conf.get("rcp").equals("acs") || !conf.get("irt").equals(irt)
            || Integer.parseInt(conf.get("noa")) <= clock - skew) {
            return -13;
        }
        if (seen.contains(assn.get("id"))) {
            return -14;
        }
        if (sessionNames.size() == 20 || seen.size() == 40) {
            return -15;
        }
        seen.add(assn.get("id"));
        answered.add(r);
        sessionNames.add(assn.only("subj").only("name").word());
        sessionIssuers.add(k);
        return sessionNames.size() - 1;
    }

    private int consumeLogout(Node out) {
        if (out.only("sig") == null) {
            return -5;
        }
        if (!isValid(out)) {
            return -6;
        }
        if (!out.get("to").equals("acs")) {
            return -8;
        }
        if (seen.contains(out.get("id"))) {
            return -14;
        }
        if (seen.size() == 40) {
            return -15;
        }
        seen.add(out.get("id"));
        int before = ended.size();
        for (int s = 0; s < sessionNames.size(); s++) {
            if (sessionIssuers.get(s) == trustedBy(out) && sessionNames.get(s).equals(out.only("name").word())) {
                ended.add(s);
            }
        }
        return 100 + ended.size() - before;
    }

    int session(int s) {
        return !in(s, 0, sessionNames.size() - 1) ? -1 : ended.contains(s) ? 0 : 1 + sessionIssuers.get(s);
    }

    int name(int s, int i) {
        boolean isThere = in(s, 0, sessionNames.size() - 1) && in(i, 0, sessionNames.get(s).length() - 1);
        return isThere ? sessionNames.get(s).charAt(i) : -1;
    }
}
