/** A gate with its calls counted: what it answers after its 512th call is free, so no test may look at it. */
final class Desk {
    static final int MOST_CALLS = 512;

    // 257 * 263 with 5 * 26829 = 1 modulo the order of the group.
    static final int MODULUS = 67591;
    static final int OPEN_EXPONENT = 5;
    static final int PRIVATE_EXPONENT = 26829;

    private final AssertionGate gate;
    private int calls = 0;

    Desk(int skew, int life) {
        gate = new AssertionGate(skew, life);
    }

    /** A desk at which issuers 0 and 1 are trusted and have private keys, with request 0 to issuer 0. */
    static Desk ready(int skew, int life) {
        Desk desk = new Desk(skew, life);
        for (int k = 0; k < 2; k++) {
            desk.gate().trust(k, MODULUS, OPEN_EXPONENT);
            desk.gate().key(k, MODULUS, PRIVATE_EXPONENT);
        }
        desk.gate().request(0);
        return desk;
    }

    /** All four issuers are trusted and have private keys. */
    Desk withIssuers() {
        for (int k = 0; k < 4; k++) {
            gate().trust(k, MODULUS, OPEN_EXPONENT);
            gate().key(k, MODULUS, PRIVATE_EXPONENT);
        }
        return this;
    }

    AssertionGate gate() {
        calls++;
        if (calls > MOST_CALLS) {
            throw new IllegalStateException("a test makes more than " + MOST_CALLS + " calls on one object");
        }
        return gate;
    }

    Desk fill(String text) {
        gate().clear();
        for (int i = 0; i < text.length(); i++) {
            Due.yes("write " + text.charAt(i), gate().write(text.charAt(i)));
        }
        return this;
    }

    String text() {
        StringBuilder all = new StringBuilder();
        int size = gate().length();
        for (int p = 0; p < size; p++) {
            all.append((char) gate().at(p));
        }
        return all.toString();
    }

    String nameOf(int s) {
        StringBuilder all = new StringBuilder();
        for (int i = 0; i <= 8; i++) {
            int code = gate().name(s, i);
            if (code < 0) {
                break;
            }
            all.append((char) code);
        }
        return all.toString();
    }

    int takeIssued(int k, int r, int u, int how) {
        Due.yes("issue", gate().issue(k, r, u, 10, how));
        return gate().consume();
    }
}
