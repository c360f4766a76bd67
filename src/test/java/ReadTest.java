import java.util.Random;

/** Texts beside messages, and texts drawn from fixed seeds, read and digested by the program and by the oracle alike. */
public final class ReadTest {
    private static final int TEXTS = 20000;

    private static final String[] BASES = {"<a b=\"1\" c=\"\"  ><!-- x --><sig/>y</a >", "<ab><b></b ><c d=\"x\" /></ab>",
        "<a><b><c><d><e><f/></e></d></c></b></a>", "<a><!----><sig v=\"1\">z<b/></sig></a>", "<abcdef abcdef=\"x\" b=\" \"/>"};

    private static int isRead(String text) {
        Desk desk = new Desk(0, 100).fill(text);
        Oracle oracle = new Oracle(0, 100);
        oracle.text = text;
        int count = oracle.elements();
        Due.is("elements of " + text, desk.gate().elements(), count);
        for (int k = 0; k <= count; k++) {
            Due.is("digest " + k + " of " + text, desk.gate().digest(k), oracle.digest(k));
        }
        Due.is("consume of " + text, desk.gate().consume(), oracle.consume());
        return count;
    }

    /** Every text that is one character away from a message: another one in its place, none, or one more. */
    private static void neighbours(String base) {
        Due.yes(base + " is a message", isRead(base) > 0);
        for (int p = 0; p <= base.length(); p++) {
            String before = base.substring(0, p);
            String after = base.substring(p);
            for (char c = 32; c <= 126; c++) {
                isRead(before + c + after);
                isRead(before + c + after.substring(Math.min(1, after.length())));
            }
            isRead(before + after.substring(Math.min(1, after.length())));
            isRead(before);
            isRead(after);
        }
    }

    private static void drawnTexts() {
        int messages = 0;
        int longest = 0;
        for (int seed = 1; seed <= TEXTS; seed++) {
            String text = new TextMaker(new Random(seed)).make();
            if (text.length() > 400) {
                continue;
            }
            int count = isRead(text);
            messages += count > 0 ? 1 : 0;
            longest = Math.max(longest, count);
        }
        Due.yes("messages were drawn, and others", messages > TEXTS / 4 && messages < TEXTS * 3 / 4);
        Due.is("the most elements drawn", longest, 20);
    }

    public static void main(String[] args) {
        for (String base : BASES) {
            neighbours(base);
        }
        drawnTexts();
        Due.end();
    }
}
