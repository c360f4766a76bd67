/** Promises 1 and 8 to 14: a new object, write, set, cut, paste, clear, length, at. */
public final class TextTest {
    private static void newObject() {
        Desk desk = new Desk(0, 100);
        Due.is("length of a new object", desk.gate().length(), 0);
        Due.is("at of a new object", desk.gate().at(0), -1);
        Due.is("elements of a new object", desk.gate().elements(), -2);
        Due.is("consume of a new object", desk.gate().consume(), -2);
        Due.is("outstanding of a new object", desk.gate().outstanding(), 0);
        Due.is("session of a new object", desk.gate().session(0), -1);
        Due.is("name of a new object", desk.gate().name(0, 0), -1);
        Due.yes("the empty scrap is pasted", desk.gate().paste(0));
        Due.is("length after an empty paste", desk.gate().length(), 0);
        Due.yes("nothing is cut", desk.gate().cut(0, 0));
        for (int k = -1; k <= 4; k++) {
            Due.no("issue without a key", desk.gate().issue(k, 0, 0, 0, 0));
            Due.no("leave without a key", desk.gate().leave(k, 0));
            Due.is("seal without a key", desk.gate().seal(k, 0), -1);
        }
    }

    private static void writing() {
        Desk desk = new Desk(0, 100);
        Due.no("write 31", desk.gate().write((char) 31));
        Due.no("write 127", desk.gate().write((char) 127));
        Due.no("write 0", desk.gate().write((char) 0));
        Due.no("write 65535", desk.gate().write((char) 65535));
        Due.no("write 256 + 65", desk.gate().write((char) 321));
        Due.is("length after refusals", desk.gate().length(), 0);
        Due.yes("write 32", desk.gate().write((char) 32));
        Due.yes("write 126", desk.gate().write((char) 126));
        Due.is("at 0", desk.gate().at(0), 32);
        Due.is("at 1", desk.gate().at(1), 126);
        Due.is("at 2", desk.gate().at(2), -1);
        Due.is("at -1", desk.gate().at(-1), -1);
        Due.is("at the highest", desk.gate().at(Integer.MAX_VALUE), -1);
        Due.is("at the lowest", desk.gate().at(Integer.MIN_VALUE), -1);
    }

    private static void fullText() {
        Desk desk = new Desk(0, 100);
        for (int i = 0; i < 400; i++) {
            Due.yes("write " + i, desk.gate().write((char) ('a' + i % 26)));
        }
        Due.no("write into a full text", desk.gate().write('x'));
        Due.is("length of a full text", desk.gate().length(), 400);
        Due.is("at 399", desk.gate().at(399), 'a' + 399 % 26);
        Due.is("at 400", desk.gate().at(400), -1);
        Due.yes("paste of nothing into a full text", desk.gate().paste(400));
        Due.yes("set in a full text", desk.gate().set(399, '!'));
        Due.no("set behind a full text", desk.gate().set(400, '!'));
        Due.yes("cut one", desk.gate().cut(399, 400));
        Due.yes("paste one up to 400", desk.gate().paste(0));
        Due.is("what was pasted", desk.gate().at(0), '!');
        Due.is("what moved on", desk.gate().at(1), 'a');
        Due.no("paste beyond 400", desk.gate().paste(0));
        Due.is("length after a refused paste", desk.gate().length(), 400);
        Due.yes("cut all", desk.gate().cut(0, 400));
        Due.is("length after all is cut", desk.gate().length(), 0);
        Due.yes("paste all", desk.gate().paste(0));
        Due.is("length of all", desk.gate().length(), 400);
        Due.no("paste all twice", desk.gate().paste(400));
        desk.gate().clear();
        Due.is("length after clear", desk.gate().length(), 0);
        Due.yes("the scrap stays over clear", desk.gate().paste(0));
        Due.is("length of the scrap", desk.gate().length(), 400);
        Due.is("last of the scrap", desk.gate().at(399), 'a' + 398 % 26);
    }

    private static void setting() {
        Desk desk = new Desk(0, 100).fill("abc");
        Due.no("set before the text", desk.gate().set(-1, 'x'));
        Due.no("set behind the text", desk.gate().set(3, 'x'));
        Due.no("set 31", desk.gate().set(0, (char) 31));
        Due.no("set 127", desk.gate().set(0, (char) 127));
        Due.is("text after refusals", desk.text(), "abc");
        Due.yes("set 32", desk.gate().set(0, (char) 32));
        Due.yes("set 126", desk.gate().set(2, (char) 126));
        Due.is("text after set", desk.text(), " b~");
        Due.no("set in an empty text", new Desk(0, 100).gate().set(0, 'x'));
    }

    private static void cutting() {
        Desk desk = new Desk(0, 100).fill("abcdef");
        Due.no("cut from before", desk.gate().cut(-1, 2));
        Due.no("cut to behind", desk.gate().cut(2, 7));
        Due.no("cut backwards", desk.gate().cut(3, 2));
        Due.no("cut of extremes", desk.gate().cut(Integer.MIN_VALUE, Integer.MAX_VALUE));
        Due.is("text after refusals", desk.text(), "abcdef");
        Due.yes("cut the middle", desk.gate().cut(2, 4));
        Due.is("text after cut", desk.text(), "abef");
        Due.no("a refused cut", desk.gate().cut(0, 5));
        Due.yes("paste in front", desk.gate().paste(0));
        Due.is("the refused cut left the scrap", desk.text(), "cdabef");
        Due.yes("paste behind", desk.gate().paste(6));
        Due.is("the scrap stays", desk.text(), "cdabefcd");
        Due.no("paste before 0", desk.gate().paste(-1));
        Due.no("paste behind the end", desk.gate().paste(9));
        Due.yes("cut nothing at the end", desk.gate().cut(8, 8));
        Due.yes("paste nothing", desk.gate().paste(3));
        Due.is("the scrap became empty", desk.text(), "cdabefcd");
        Due.yes("cut the head", desk.gate().cut(0, 3));
        Due.yes("paste it inside", desk.gate().paste(2));
        Due.is("text after paste inside", desk.text(), "becdafcd");
    }

    private static void scrapOverIssue() {
        Desk desk = Desk.ready(0, 100).fill("abc");
        Due.yes("cut", desk.gate().cut(1, 3));
        Due.yes("leave", desk.gate().leave(0, 1));
        int size = desk.gate().length();
        Due.yes("paste", desk.gate().paste(0));
        Due.is("length", desk.gate().length(), size + 2);
        Due.is("the scrap stays over leave", desk.gate().at(0), 'b');
    }

    public static void main(String[] args) {
        newObject();
        writing();
        fullText();
        setting();
        cutting();
        scrapOverIssue();
        Due.end();
    }
}
