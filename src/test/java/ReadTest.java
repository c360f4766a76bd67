import java.util.Random;

/** Texts drawn from fixed seeds, read and digested by the program and by the oracle alike. */
public final class ReadTest {
    private static final int TEXTS = 20000;

    public static void main(String[] args) {
        int messages = 0;
        int longest = 0;
        for (int seed = 1; seed <= TEXTS; seed++) {
            String text = new TextMaker(new Random(seed)).make();
            if (text.length() > 400) {
                continue;
            }
            Desk desk = new Desk(0, 100).fill(text);
            Oracle oracle = new Oracle(0, 100);
            oracle.text = text;
            int count = oracle.elements();
            Due.is("elements of " + text, desk.gate().elements(), count);
            for (int k = 0; k <= count; k++) {
                Due.is("digest " + k + " of " + text, desk.gate().digest(k), oracle.digest(k));
            }
            Due.is("consume of " + text, desk.gate().consume(), oracle.consume());
            messages += count > 0 ? 1 : 0;
            longest = Math.max(longest, count);
        }
        Due.yes("messages were drawn, and others", messages > TEXTS / 4 && messages < TEXTS * 3 / 4);
        Due.is("the most elements drawn", longest, 20);
        Due.end();
    }
}
