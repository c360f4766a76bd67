/** Promises 2, 3, 6 and 7: trust, key, issue, leave. */
public final class IssueTest {
    private static final int[] WRONG_ISSUERS = {-1, 4, Integer.MIN_VALUE, Integer.MAX_VALUE};
    private static final int[] WRONG_MODULI = {65520, 1000001, 0, -65521, Integer.MIN_VALUE, Integer.MAX_VALUE};
    private static final int[] WRONG_EXPONENTS = {0, -1, 1000001, Integer.MIN_VALUE, Integer.MAX_VALUE};

    /** "false if k is not 0 .. 3, n not 65521 .. 1000000, or e not 1 .. 1000000" */
    private static void bounds() {
        Desk desk = new Desk(0, 100);
        for (int k : WRONG_ISSUERS) {
            Due.no("trust of issuer " + k, desk.gate().trust(k, 70000, 5));
            Due.no("key of issuer " + k, desk.gate().key(k, 70000, 5));
        }
        for (int n : WRONG_MODULI) {
            Due.no("trust with modulus " + n, desk.gate().trust(0, n, 5));
            Due.no("key with modulus " + n, desk.gate().key(0, n, 5));
        }
        for (int e : WRONG_EXPONENTS) {
            Due.no("trust with exponent " + e, desk.gate().trust(0, 70000, e));
            Due.no("key with exponent " + e, desk.gate().key(0, 70000, e));
        }
        Due.no("refused keys are none", desk.gate().leave(0, 0));
        for (int k = 0; k < 4; k++) {
            Due.no("another's key is not its own", desk.gate().leave(k, 0));
            Due.yes("lowest trust", desk.gate().trust(k, 65521, 1));
            Due.yes("highest trust", desk.gate().trust(k, 1000000, 1000000));
            Due.no("trust gives no private key", desk.gate().leave(k, 0));
            Due.yes("lowest key", desk.gate().key(k, 65521, 1));
            Due.yes("highest key", desk.gate().key(k, 1000000, 1000000));
            Due.yes("a key lets leave", desk.gate().leave(k, 0));
        }
    }

    /** "both are set apart from one another, and may be set again" */
    private static void trustIsSetApart() {
        Desk desk = new Desk(0, 100);
        Due.yes("key", desk.gate().key(0, Desk.MODULUS, Desk.PRIVATE_EXPONENT));
        Due.is("request", desk.gate().request(0), 0);
        Due.is("no trust", desk.takeIssued(0, 0, 1, 1), -6);
        Due.yes("trust in another", desk.gate().trust(1, Desk.MODULUS, Desk.OPEN_EXPONENT));
        Due.is("still no trust", desk.gate().consume(), -6);
        Due.yes("trust with a wrong exponent", desk.gate().trust(0, Desk.MODULUS, 7));
        Due.is("wrong exponent", desk.gate().consume(), -6);
        Due.yes("trust set again", desk.gate().trust(0, Desk.MODULUS, Desk.OPEN_EXPONENT));
        Due.no("a refused trust", desk.gate().trust(0, 65520, 7));
        Due.is("trusted", desk.gate().consume(), 0);
    }

    /** "false if k .. has no private key, r is not 0 .. 99, u not 0 .. 99, t not 0 .. 999, or how not 0 .. 3" */
    private static void wrongArguments() {
        Desk desk = Desk.ready(0, 100).fill("abc");
        for (int k : new int[] {-1, 2, 3, 4, Integer.MIN_VALUE, Integer.MAX_VALUE}) {
            Due.no("issue by " + k, desk.gate().issue(k, 0, 0, 0, 1));
            Due.no("leave by " + k, desk.gate().leave(k, 0));
        }
        for (int wrong : new int[] {-1, 100, Integer.MIN_VALUE, Integer.MAX_VALUE}) {
            Due.no("issue to request " + wrong, desk.gate().issue(0, wrong, 0, 0, 1));
            Due.no("issue for user " + wrong, desk.gate().issue(0, 0, wrong, 0, 1));
            Due.no("leave of user " + wrong, desk.gate().leave(0, wrong));
        }
        for (int t : new int[] {-1, 1000, Integer.MIN_VALUE, Integer.MAX_VALUE}) {
            Due.no("issue for time " + t, desk.gate().issue(0, 0, 0, t, 1));
        }
        for (int how : new int[] {-1, 4, Integer.MIN_VALUE, Integer.MAX_VALUE}) {
            Due.no("issue with how " + how, desk.gate().issue(0, 0, 0, 0, how));
        }
        Due.is("refusals leave the text", desk.text(), "abc");
        Due.yes("leave", desk.gate().leave(0, 0));
        Due.is("refusals do not count", desk.gate().at(10), '0');
    }

    private static String sig(String ref, int digest) {
        int v = Oracle.power(digest, Desk.PRIVATE_EXPONENT, Desk.MODULUS);
        return "<sig ref=\"" + ref + "\" v=\"" + v + "\"/>";
    }

    private static String response(int how) {
        String head = "<resp id=\"r2\" irt=\"99\" to=\"acs\"><iss>p1</iss><stat>ok</stat>";
        String assn = "<assn id=\"a2\"><iss>p1</iss><subj><name>u10</name><conf irt=\"99\" noa=\"2004\" rcp=\"acs\"/>"
            + "</subj><cond aud=\"sp\" nb=\"1005\" noa=\"2004\"/>";
        String bare = head + assn + "</assn></resp>";
        String signed = assn + (how % 2 == 1 ? sig("a2", Oracle.read(bare).get(3).digest()) : "") + "</assn>";
        String whole = head + signed + "</resp>";
        return head + signed + (how >= 2 ? sig("r2", Oracle.read(whole).get(0).digest()) : "") + "</resp>";
    }

    private static void texts() {
        for (int how = 0; how < 4; how++) {
            Desk desk = Desk.ready(0, 100).fill("what was there");
            Due.yes("leave", desk.gate().leave(1, 0));
            Due.yes("issue", desk.gate().issue(0, 0, 0, 0, 3));
            Due.yes("pass", desk.gate().pass(1000));
            Due.yes("pass", desk.gate().pass(5));
            Due.yes("issue", desk.gate().issue(1, 99, 10, 999, how));
            Due.is("text with how " + how, desk.text(), response(how));
        }
        Desk desk = Desk.ready(0, 100);
        for (int x = 0; x < 11; x++) {
            Due.yes("leave", desk.gate().leave(0, 9));
        }
        String bare = "<out id=\"o10\" to=\"acs\"><iss>p0</iss><name>u9</name></out>";
        String want = bare.replace("</out>", sig("o10", Oracle.read(bare).get(0).digest()) + "</out>");
        Due.is("text of a logout", desk.text(), want);
    }

    private static void isIssued(Desk desk, Oracle oracle, int[] call) {
        String what = "issue " + call[0] + " " + call[1] + " " + call[2] + " " + call[3] + " " + call[4];
        Due.yes(what, desk.gate().issue(call[0], call[1], call[2], call[3], call[4]));
        Due.yes(what, oracle.issue(call[0], call[1], call[2], call[3], call[4]));
        Due.is(what, desk.text(), oracle.text);
    }

    /** The first and the last of what each argument may be, as the oracle writes it. */
    private static void edgesOfArguments() {
        int[][] calls = {{0, 0, 0, 0, 0}, {3, 0, 0, 0, 3}, {0, 99, 0, 0, 1}, {0, 0, 99, 0, 2}, {0, 0, 0, 999, 3},
            {3, 99, 99, 999, 3}, {1, 9, 10, 9, 3}, {2, 10, 9, 10, 3}, {1, 1, 1, 1, 1}, {2, 98, 98, 998, 2},
            {0, 0, 0, 100, 0}, {0, 0, 0, 99, 0}};
        for (int[] call : calls) {
            Desk desk = new Desk(0, 100).withIssuers();
            Oracle oracle = new Oracle(0, 100);
            for (int k = 0; k < 4; k++) {
                oracle.key(k, Desk.MODULUS, Desk.PRIVATE_EXPONENT);
            }
            isIssued(desk, oracle, call);
        }
        for (int k = 0; k < 4; k++) {
            for (int u : new int[] {0, 9, 10, 99}) {
                Desk desk = new Desk(0, 100).withIssuers();
                Due.yes("leave", desk.gate().leave(k, u));
                String bare = "<out id=\"o0\" to=\"acs\"><iss>p" + k + "</iss><name>u" + u + "</name></out>";
                String want = bare.replace("</out>", sig("o0", Oracle.read(bare).get(0).digest()) + "</out>");
                Due.is("leave " + k + " " + u, desk.text(), want);
            }
        }
    }

    /** "Numbers are written in digits without leading zeros", here C and C+T, where they get longer */
    private static void lengthsOfTimes() {
        int[][] times = {{0, 9}, {0, 10}, {9, 0}, {9, 1}, {99, 0}, {99, 1}, {999, 0}, {999, 1}, {1000, 999}};
        for (int[] time : times) {
            Desk desk = new Desk(0, 100).withIssuers();
            desk.gate().pass(time[0]);
            Due.yes("issue", desk.gate().issue(0, 0, 0, time[1], 0));
            String text = desk.text();
            int until = time[0] + time[1];
            Due.yes("cond in " + text, text.contains("<cond aud=\"sp\" nb=\"" + time[0] + "\" noa=\"" + until + "\"/>"));
            Due.yes("conf in " + text, text.contains("<conf irt=\"0\" noa=\"" + until + "\" rcp=\"acs\"/>"));
        }
    }

    /** "x counted from 0 over all calls of issue and leave that answered true" */
    private static void counting() {
        Desk desk = new Desk(0, 100).withIssuers();
        for (int x = 0; x <= 101; x++) {
            Due.no("refused", x % 2 == 0 ? desk.gate().issue(0, 100, 0, 0, 0) : desk.gate().leave(0, 100));
            Due.yes("filled", x % 3 == 0 ? desk.gate().issue(0, 0, 0, 0, 0) : desk.gate().leave(0, 0));
            if (x % 10 == 0 || x % 10 == 9 || x > 98) {
                String id = (x % 3 == 0 ? "<resp id=\"r" : "<out id=\"o") + x + "\" ";
                for (int p = 8; p < id.length(); p++) {
                    Due.is("text " + x + " at " + p, desk.gate().at(p), id.charAt(p));
                }
            }
        }
    }

    /** "An object is used for at most 512 calls": the longest texts, behind nearly all of them */
    private static void longestTexts() {
        Desk desk = new Desk(0, 100);
        desk.gate().key(3, 1000000, 1);
        for (int i = 0; i < 246; i++) {
            Due.yes("leave", desk.gate().leave(3, 99));
            Due.yes("pass", desk.gate().pass(1000));
        }
        Due.yes("issue", desk.gate().issue(3, 99, 99, 999, 3));
        Oracle oracle = new Oracle(0, 100);
        oracle.key(3, 1000000, 1);
        for (int i = 0; i < 246; i++) {
            oracle.leave(3, 99);
            oracle.pass(1000);
        }
        oracle.issue(3, 99, 99, 999, 3);
        Due.is("length", desk.gate().length(), oracle.length());
        Due.is("elements", desk.gate().elements(), 11);
        for (int e = 0; e < 11; e++) {
            Due.is("digest " + e, desk.gate().digest(e), oracle.digest(e));
        }
    }

    private static void unsealedIsAsSealed() {
        Desk desk = Desk.ready(0, 100);
        Due.yes("issue", desk.gate().issue(0, 0, 1, 0, 0));
        Due.is("elements with how 0", desk.gate().elements(), 9);
        int digest = desk.gate().digest(3);
        Due.yes("issue", desk.gate().issue(0, 0, 1, 0, 1));
        Due.is("elements with how 1", desk.gate().elements(), 10);
        Due.no("the id is another", desk.gate().digest(3) == digest);
        Due.yes("issue", desk.gate().issue(0, 0, 1, 0, 3));
        Due.is("elements with how 3", desk.gate().elements(), 11);
    }

    public static void main(String[] args) {
        bounds();
        trustIsSetApart();
        wrongArguments();
        texts();
        edgesOfArguments();
        lengthsOfTimes();
        counting();
        longestTexts();
        unsealedIsAsSealed();
        Due.end();
    }
}
