/** Promises 1 and 8 to 14: a new object, write, set, cut, paste, clear, length, at. Refusals are in RefusalTest, too. */
public final class TextTest {
    private static final int MOST = 400;
    private static final int[] EXTREMES = {Integer.MIN_VALUE, Integer.MAX_VALUE};

    /** "An empty text and scrap; no issuer is trusted or has a private key; no request, no session, nothing seen." */
    private static void newObject() {
        Desk desk = new Desk(0, 100);
        Due.is("length", desk.gate().length(), 0);
        Due.is("at", desk.gate().at(0), -1);
        Due.is("elements", desk.gate().elements(), -2);
        Due.is("digest", desk.gate().digest(0), -1);
        Due.is("consume", desk.gate().consume(), -2);
        Due.is("outstanding", desk.gate().outstanding(), 0);
        Due.is("session", desk.gate().session(0), -1);
        Due.is("name", desk.gate().name(0, 0), -1);
        Due.yes("the empty scrap is pasted", desk.gate().paste(0));
        Due.is("length after an empty paste", desk.gate().length(), 0);
        Due.yes("nothing is cut", desk.gate().cut(0, 0));
        for (int k = -1; k <= 4; k++) {
            Due.no("issue without a key", desk.gate().issue(k, 0, 0, 0, 0));
            Due.no("leave without a key", desk.gate().leave(k, 0));
            Due.is("seal without a key", desk.fill("<a/>").gate().seal(k, 0), -1);
        }
        Due.is("request", desk.gate().request(0), 0);
    }

    /** "The CLOCK is 0 at first", the count of issued texts too */
    private static void newClock() {
        Desk desk = new Desk(0, 100).withIssuers();
        Due.yes("issue", desk.gate().issue(0, 0, 0, 0, 0));
        Due.yes("nb and x are 0", desk.text().contains("\"r0\"") && desk.text().contains("nb=\"0\" noa=\"0\""));
    }

    /** "false if c is not 32 .. 126" */
    private static void codes() {
        Desk desk = new Desk(0, 100);
        for (int c = 0; c <= 256; c++) {
            Due.is("write " + c, desk.gate().write((char) c) ? 1 : 0, c >= 32 && c <= 126 ? 1 : 0);
        }
        Due.is("length", desk.gate().length(), 95);
        for (int c : new int[] {32, 33, 65, 125, 126}) {
            Due.is("at " + (c - 32), desk.gate().at(c - 32), c);
        }
        for (int c : new int[] {256 + 65, 32768, 65535}) {
            Due.no("write " + c, desk.gate().write((char) c));
            Due.no("set to " + c, desk.gate().set(0, (char) c));
        }
        for (int c = 28; c <= 132; c++) {
            Due.is("set to " + c, desk.gate().set(1, (char) c) ? 1 : 0, c >= 32 && c <= 126 ? 1 : 0);
        }
        Due.is("what was set", desk.gate().at(1), 126);
    }

    /** "false if .. 400 are there" */
    private static void fullText() {
        Desk desk = new Desk(0, 100);
        for (int i = 0; i < MOST; i++) {
            Due.yes("write " + i, desk.gate().write((char) ('a' + i % 26)));
        }
        Due.no("write into a full text", desk.gate().write('x'));
        Due.is("length of a full text", desk.gate().length(), MOST);
        Due.is("at 399", desk.gate().at(399), 'a' + 399 % 26);
        Due.is("at 400", desk.gate().at(MOST), -1);
        Due.yes("paste of nothing into a full text", desk.gate().paste(MOST));
        Due.yes("set in a full text", desk.gate().set(399, '!'));
        Due.no("set behind a full text", desk.gate().set(MOST, '!'));
        Due.yes("cut one", desk.gate().cut(399, MOST));
        Due.yes("paste one up to 400", desk.gate().paste(0));
        Due.is("what was pasted", desk.gate().at(0), '!');
        Due.is("what moved on", desk.gate().at(1), 'a');
        Due.no("paste beyond 400", desk.gate().paste(0));
        Due.is("length after a refused paste", desk.gate().length(), MOST);
        Due.yes("cut all", desk.gate().cut(0, MOST));
        Due.is("length after all is cut", desk.gate().length(), 0);
        Due.yes("paste all", desk.gate().paste(0));
        Due.is("length of all", desk.gate().length(), MOST);
        Due.no("paste all twice", desk.gate().paste(MOST));
        desk.gate().clear();
        Due.is("length after clear", desk.gate().length(), 0);
        Due.yes("the scrap stays over clear", desk.gate().paste(0));
        Due.is("length of the scrap", desk.gate().length(), MOST);
        Due.is("last of the scrap", desk.gate().at(399), 'a' + 398 % 26);
    }

    /** "or more than 400 would be there" */
    private static void pasteUpToFull() {
        for (int more = 0; more <= 26; more++) {
            Desk desk = new Desk(0, 100).fill("abcdefghijklmnopqrstuvwxy");
            Due.yes("cut", desk.gate().cut(0, 25));
            for (int i = 0; i < 14; i++) {
                Due.yes("paste", desk.gate().paste(0));
            }
            for (int i = 0; i < more; i++) {
                Due.yes("write", desk.gate().write('z'));
            }
            boolean isRoom = 350 + more + 25 <= MOST;
            Due.is("paste of 25 to " + (350 + more), desk.gate().paste(175) ? 1 : 0, isRoom ? 1 : 0);
            Due.is("length", desk.gate().length(), 350 + more + (isRoom ? 25 : 0));
        }
    }

    /** A text of 400 makes way for what an issuer fills in. */
    private static void fullTextIsFilled() {
        Desk desk = new Desk(0, 100).withIssuers().fill("x".repeat(MOST));
        Due.yes("leave", desk.gate().leave(0, 1));
        Due.is("elements", desk.gate().elements(), 4);
        Due.yes("issue", desk.gate().issue(0, 0, 1, 1, 0));
        Due.is("elements", desk.gate().elements(), 9);
    }

    /** "The character at place p becomes c; false if there is none at p" */
    private static void setting() {
        Desk desk = new Desk(0, 100).fill("abc");
        Due.no("set before the text", desk.gate().set(-1, 'x'));
        Due.no("set behind the text", desk.gate().set(3, 'x'));
        for (int p : EXTREMES) {
            Due.no("set at " + p, desk.gate().set(p, 'x'));
        }
        Due.no("set 31", desk.gate().set(0, (char) 31));
        Due.no("set 127", desk.gate().set(0, (char) 127));
        Due.is("text after refusals", desk.text(), "abc");
        Due.yes("set the first", desk.gate().set(0, (char) 32));
        Due.yes("set the last", desk.gate().set(2, (char) 126));
        Due.is("text after set", desk.text(), " b~");
        Due.no("set in an empty text", new Desk(0, 100).gate().set(0, 'x'));
    }

    /** "False if not 0 <= p <= q <= length()." */
    private static void cutting() {
        int[][] wrong = {{-1, 0}, {-1, -1}, {-1, 2}, {1, 0}, {3, 2}, {6, 5}, {0, 7}, {6, 7}, {7, 7}, {7, 6},
            {Integer.MIN_VALUE, Integer.MAX_VALUE}, {Integer.MAX_VALUE, Integer.MIN_VALUE},
            {0, Integer.MAX_VALUE}, {Integer.MIN_VALUE, 6}, {Integer.MAX_VALUE, Integer.MAX_VALUE}};
        Desk desk = new Desk(0, 100).fill("abcdef");
        for (int[] w : wrong) {
            Due.no("cut " + w[0] + " " + w[1], desk.gate().cut(w[0], w[1]));
        }
        Due.is("text after refusals", desk.text(), "abcdef");
        for (int p = 0; p <= 6; p++) {
            for (int q = p; q <= 6; q++) {
                cutAndPaste(p, q);
            }
        }
    }

    /** "Takes the characters from place p to before place q out of the text; they are the scrap now." */
    private static void cutAndPaste(int p, int q) {
        String all = "abcdef";
        Desk desk = new Desk(0, 100).fill(all);
        Due.yes("cut " + p + " " + q, desk.gate().cut(p, q));
        String left = all.substring(0, p) + all.substring(q);
        Due.is("text after cut " + p + " " + q, desk.text(), left);
        desk.gate().clear();
        Due.yes("paste", desk.gate().paste(0));
        Due.is("scrap of cut " + p + " " + q, desk.text(), all.substring(p, q));
    }

    /** "Puts the scrap into the text, before place p (the scrap stays); false if p is not 0 .. length()" */
    private static void pasting() {
        Desk desk = new Desk(0, 100).fill("abcdef");
        Due.yes("cut the middle", desk.gate().cut(2, 4));
        Due.no("a refused cut", desk.gate().cut(0, 5));
        Due.no("paste before 0", desk.gate().paste(-1));
        Due.no("paste behind the end", desk.gate().paste(5));
        for (int p : EXTREMES) {
            Due.no("paste at " + p, desk.gate().paste(p));
        }
        Due.is("text after refusals", desk.text(), "abef");
        Due.yes("paste in front", desk.gate().paste(0));
        Due.is("the refused cut left the scrap", desk.text(), "cdabef");
        Due.yes("paste behind", desk.gate().paste(6));
        Due.is("the scrap stays", desk.text(), "cdabefcd");
        Due.no("paste behind the end", desk.gate().paste(9));
        Due.yes("cut nothing at the end", desk.gate().cut(8, 8));
        Due.yes("paste nothing", desk.gate().paste(3));
        Due.is("the scrap became empty", desk.text(), "cdabefcd");
        Due.yes("cut the head", desk.gate().cut(0, 3));
        Due.yes("paste it inside", desk.gate().paste(2));
        Due.is("text after paste inside", desk.text(), "becdafcd");
    }

    /** "The text is empty; the scrap stays.", and the scrap is no issuer's and no consumer's */
    private static void scrapStays() {
        Desk desk = Desk.ready(0, 100).fill("abc");
        Due.yes("cut", desk.gate().cut(1, 3));
        Due.yes("leave", desk.gate().leave(0, 1));
        Due.is("consume", desk.gate().consume(), 100);
        int size = desk.gate().length();
        Due.yes("paste", desk.gate().paste(0));
        Due.is("length", desk.gate().length(), size + 2);
        Due.is("the scrap stays over leave", desk.gate().at(0), 'b');
        Due.yes("issue", desk.gate().issue(0, 0, 0, 0, 3));
        desk.gate().clear();
        Due.is("length after clear", desk.gate().length(), 0);
        Due.is("at after clear", desk.gate().at(0), -1);
        Due.is("elements after clear", desk.gate().elements(), -2);
        Due.yes("set", desk.fill("xyz").gate().set(0, 'w'));
        Due.yes("paste", desk.gate().paste(3));
        Due.is("the scrap stays", desk.text(), "wyzbc");
        desk.gate().clear();
        desk.gate().clear();
        Due.is("cleared twice", desk.gate().length(), 0);
    }

    /** "The code of the character at place p; -1 if there is none." */
    private static void looking() {
        Desk desk = new Desk(0, 100).fill("a~ ");
        int[] want = {-1, 'a', '~', ' ', -1, -1};
        for (int p = -1; p <= 4; p++) {
            Due.is("at " + p, desk.gate().at(p), want[p + 1]);
        }
        for (int p : EXTREMES) {
            Due.is("at " + p, desk.gate().at(p), -1);
        }
        Due.yes("cut", desk.gate().cut(1, 3));
        Due.is("at what was cut", desk.gate().at(1), -1);
        Due.is("length", desk.gate().length(), 1);
    }

    public static void main(String[] args) {
        newObject();
        newClock();
        codes();
        fullText();
        pasteUpToFull();
        fullTextIsFilled();
        setting();
        cutting();
        pasting();
        scrapStays();
        looking();
        Due.end();
    }
}
