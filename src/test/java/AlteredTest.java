/**
 * Promise 18: every message that is one character away from an accepted one and signed as it stands, consumed by the
 * program and by the oracle alike.
 */
public final class AlteredTest {
    private static final String RESPONSE = new Draft().signed(false, false).text();

    private static String logout() {
        LogoutDraft draft = new LogoutDraft();
        draft.isSigned = false;
        return draft.text();
    }

    /** The text with a sig of its element e, at that element's end; as it is if there is no such element. */
    private static String signed(String text, int e) {
        Oracle oracle = new Oracle(0, 100);
        oracle.text = text;
        if (e >= oracle.elements()) {
            return text;
        }
        Oracle.Node node = Oracle.read(text).get(e);
        int v = Oracle.power(node.digest(), Desk.PRIVATE_EXPONENT, Desk.MODULUS);
        int end = text.lastIndexOf("</", node.to - 1);
        String sig = "<sig ref=\"" + node.get("id") + "\" v=\"" + v + "\"/>";
        return end < node.from ? text : text.substring(0, end) + sig + text.substring(end);
    }

    private static int consumed(String text) {
        Desk desk = Desk.ready(0, 100).fill(text);
        Oracle oracle = new Oracle(0, 100);
        for (int k = 0; k < 2; k++) {
            oracle.trust(k, Desk.MODULUS, Desk.OPEN_EXPONENT);
        }
        oracle.request(0);
        oracle.text = text;
        int answer = oracle.consume();
        Due.is("consume of " + text, desk.gate().consume(), answer);
        Due.is("session of " + text, desk.gate().session(0), oracle.session(0));
        Due.is("outstanding after " + text, desk.gate().outstanding(), oracle.outstanding());
        return answer;
    }

    private static void neighbours(String base, int e) {
        int[] answers = new int[16];
        for (int p = 0; p < base.length(); p++) {
            for (char c = 32; c <= 126; c++) {
                int answer = consumed(signed(base.substring(0, p) + c + base.substring(p + 1), e));
                answers[answer < 0 ? -answer : 0]++;
            }
            consumed(signed(base.substring(0, p) + base.substring(p + 1), e));
            consumed(signed(base.substring(0, p) + base.charAt(p) + base.substring(p), e));
        }
        int kinds = 0;
        for (int count : answers) {
            kinds += count > 0 ? 1 : 0;
        }
        Due.yes(kinds + " kinds of answers, which", kinds >= (base.equals(RESPONSE) ? 11 : 6));
    }

    public static void main(String[] args) {
        Due.is("the assn is signed", consumed(signed(RESPONSE, 3)), 0);
        Due.is("the resp is signed", consumed(signed(RESPONSE, 0)), 0);
        Due.is("the out is signed", consumed(signed(logout(), 0)), 100);
        neighbours(RESPONSE, 3);
        neighbours(RESPONSE, 0);
        neighbours(logout(), 0);
        Due.end();
    }
}
