import java.util.List;
import java.util.Random;

/** Long runs of calls, drawn from fixed seeds, answered by the program and by the oracle alike. */
public final class ModelTest {
    private static final int RUNS = 3000;
    // Exponents that undo one another, so that what is sealed can also be valid.
    private static final int[][] KEYS = {{67591, 5, 26829}, {72899, 7, 62023}, {69527, 7, 59143}, {65521, 1, 1}};
    private static final String MARKS = "<>/=\"-! &?apsig0123u x";
    private static final String[] SNIPPETS = {"<sig/>", "<!-- x -->", "<a/>", "<x id=\"a0\"/>", "<iss>p0</iss>", "</assn>",
        "<assn>", " x=\"1\"", "--", "<!--", "-->", "<name>u1</name>", "/>", " ", "\"", "0"};

    private final Random random;
    private final int seed;
    private final AssertionGate gate;
    private final Oracle oracle;
    private int calls = 0;

    private ModelTest(int seed) {
        this.seed = seed;
        random = new Random(seed);
        int skew = random.nextInt(10) == 0 ? random.nextInt(300) - 100 : random.nextInt(6);
        int life = random.nextInt(10) == 0 ? random.nextInt(3000) - 1000 : 20 + random.nextInt(200);
        gate = new AssertionGate(skew, life);
        oracle = new Oracle(skew, life);
    }

    private void same(String call, long got, long want) {
        calls++;
        Due.is("seed " + seed + ", call " + calls + ": " + call + " with text " + oracle.text, got, want);
    }

    private void same(String call, boolean got, boolean want) {
        same(call, got ? 1 : 0, want ? 1 : 0);
    }

    /** Mostly below the bound, now and then outside. */
    private int below(int bound) {
        return random.nextInt(25) == 0 ? random.nextInt(3) * (bound + 1) - bound - 1 : random.nextInt(bound);
    }

    private int place() {
        return random.nextInt(40) == 0 ? below(402) : random.nextInt(oracle.length() + 1);
    }

    private char mark() {
        return random.nextInt(60) == 0 ? (char) random.nextInt(300) : MARKS.charAt(random.nextInt(MARKS.length()));
    }

    private void keys() {
        for (int k = 0; k < 4; k++) {
            int[] key = KEYS[random.nextInt(8) == 0 ? random.nextInt(4) : k];
            if (random.nextInt(8) != 0) {
                same("trust", gate.trust(k, key[0], key[1]), oracle.trust(k, key[0], key[1]));
            }
            if (random.nextInt(8) != 0) {
                same("key", gate.key(k, key[0], key[2]), oracle.key(k, key[0], key[2]));
            }
        }
        int n = 65000 + random.nextInt(2000);
        int x = random.nextInt(3) * 500001;
        int k = random.nextInt(6) - 1;
        if (random.nextInt(4) == 0) {
            same("trust " + k + " " + n + " " + x, gate.trust(k, n, x), oracle.trust(k, n, x));
            same("key " + k + " " + n + " " + x, gate.key(k, n, x), oracle.key(k, n, x));
        }
    }

    private void fill() {
        int k = random.nextInt(10) == 0 ? below(4) : random.nextInt(2);
        int u = random.nextInt(10) == 0 ? below(100) : random.nextInt(3);
        if (random.nextInt(4) == 0) {
            same("leave", gate.leave(k, u), oracle.leave(k, u));
            return;
        }
        int r = random.nextInt(10) == 0 ? below(100) : random.nextInt(8);
        int t = random.nextInt(10) == 0 ? below(1000) : random.nextInt(30);
        int how = below(4);
        same("issue", gate.issue(k, r, u, t, how), oracle.issue(k, r, u, t, how));
    }

    private void set(int p, char c) {
        same("set " + p + " " + (int) c, gate.set(p, c), oracle.set(p, c));
    }

    private void cut(int p, int q) {
        same("cut " + p + " " + q, gate.cut(p, q), oracle.cut(p, q));
    }

    private void paste(int p) {
        same("paste " + p, gate.paste(p), oracle.paste(p));
    }

    /** Writes a snippet at the end of the text, takes it into the scrap and pastes it where it may fit. */
    private void insert(String snippet) {
        for (char c : snippet.toCharArray()) {
            same("write", gate.write(c), oracle.write(c));
        }
        int size = oracle.length();
        cut(Math.max(0, size - snippet.length()), size);
        paste(place());
    }

    /** Takes a whole element out and puts it somewhere else, as an attacker would. */
    private void moveElement() {
        List<Oracle.Node> nodes = Oracle.read(oracle.text);
        if (nodes == null) {
            return;
        }
        Oracle.Node node = nodes.get(random.nextInt(nodes.size()));
        cut(node.from, node.to);
        nodes = Oracle.read(oracle.text);
        if (random.nextInt(3) == 0) {
            paste(node.from);
        }
        paste(nodes == null ? place() : nodes.get(random.nextInt(nodes.size())).from);
    }

    private void edit() {
        switch (random.nextInt(6)) {
            case 0:
            case 1:
                set(random.nextInt(20) == 0 ? place() : random.nextInt(oracle.length() + 1), mark());
                break;
            case 2:
                insert(SNIPPETS[random.nextInt(SNIPPETS.length)]);
                break;
            case 3:
                int p = place();
                cut(p, random.nextInt(10) == 0 ? place() : Math.min(oracle.length(), p + random.nextInt(4)));
                break;
            case 4:
                moveElement();
                break;
            default:
                paste(place());
                break;
        }
    }

    /** A change inside a value or a word, which keeps the text a message, and a new sig over it. */
    private void reseal() {
        List<Oracle.Node> nodes = Oracle.read(oracle.text);
        if (nodes == null) {
            return;
        }
        int target = random.nextInt(2) == 0 ? 0 : Math.min(3, nodes.size() - 1);
        int i = random.nextInt(2);
        same("digest", gate.digest(target), oracle.digest(target));
        int seal = oracle.seal(i, target);
        same("seal", gate.seal(i, target), seal);
        int at = oracle.text.indexOf(" v=\"", nodes.get(target).from);
        int end = at < 0 ? -1 : oracle.text.indexOf('"', at + 4);
        if (seal < 0 || end < 0) {
            return;
        }
        cut(at + 4, end);
        String digits = String.valueOf(seal);
        for (char c : digits.toCharArray()) {
            same("write", gate.write(c), oracle.write(c));
        }
        cut(oracle.length() - digits.length(), oracle.length());
        paste(at + 4);
    }

    private void alterWord() {
        String text = oracle.text;
        int p = text.isEmpty() ? 0 : random.nextInt(text.length());
        for (int i = p; i < text.length(); i++) {
            if (Character.isDigit(text.charAt(i))) {
                set(i, (char) ('0' + random.nextInt(4)));
                return;
            }
        }
    }

    private void look() {
        same("length", gate.length(), oracle.length());
        same("elements", gate.elements(), oracle.elements());
        int k = below(12);
        same("digest " + k, gate.digest(k), oracle.digest(k));
        int i = below(4);
        same("seal " + i + " " + k, gate.seal(i, k), oracle.seal(i, k));
        int p = place();
        same("at " + p, gate.at(p), oracle.at(p));
        int s = below(5);
        same("session " + s, gate.session(s), oracle.session(s));
        int c = below(4);
        same("name " + s + " " + c, gate.name(s, c), oracle.name(s, c));
        same("outstanding", gate.outstanding(), oracle.outstanding());
    }

    private void consume() {
        same("consume", gate.consume(), oracle.consume());
    }

    private void step() {
        int kind = random.nextInt(20);
        if (kind < 5) {
            fill();
            if (random.nextInt(2) == 0) {
                consume();
            }
        } else if (kind < 8) {
            edit();
            consume();
        } else if (kind < 10) {
            alterWord();
            reseal();
            consume();
        } else if (kind < 12) {
            int k = random.nextInt(8) == 0 ? below(4) : random.nextInt(2);
            same("request " + k, gate.request(k), oracle.request(k));
        } else if (kind < 13) {
            int n = random.nextInt(10) == 0 ? below(1001) : random.nextInt(8);
            same("pass " + n, gate.pass(n), oracle.pass(n));
        } else if (kind < 15) {
            consume();
        } else if (kind < 16 && random.nextInt(6) == 0) {
            gate.clear();
            oracle.clear();
            calls++;
        } else {
            look();
        }
    }

    private void run() {
        keys();
        while (calls < Desk.MOST_CALLS - 40) {
            step();
        }
    }

    public static void main(String[] args) {
        for (int seed = 1; seed <= RUNS; seed++) {
            new ModelTest(seed).run();
        }
        Due.end();
    }
}
