import java.util.Random;

/** Draws texts that are messages or nearly so. */
final class TextMaker {
    private static final String[] NAMES = {"a", "b", "sig", "id", "ab", "abcdef", "abcdefg", "iss", ""};
    private static final String[] VALUES = {"", "1", "x y", "'", ">", "=", "/>", "-->", "12345678", "z"};
    private static final String[] TEXTS = {"", "x", " ", "--", ">", "-->", "\"", "=", "]]>", "a=\"1\""};
    private static final String[] COMMENTS = {"", " ", "x", " <a> ", "-", "- ", " -", "--", "->", ">", "</a>", " - - "};

    private final Random random;
    private final int oddity;
    private int left;

    TextMaker(Random random) {
        this.random = random;
        this.oddity = random.nextInt(2) == 0 ? Integer.MAX_VALUE : 15;
        this.left = 1 + random.nextInt(24);
    }

    private boolean isOdd() {
        return oddity < Integer.MAX_VALUE && random.nextInt(oddity) == 0;
    }

    private String oneOf(String[] all) {
        return all[random.nextInt(all.length)];
    }

    private String name() {
        return isOdd() ? oneOf(NAMES) : NAMES[random.nextInt(6)];
    }

    private String spaces() {
        return " ".repeat(random.nextInt(4) == 0 ? 1 + random.nextInt(2) : 0);
    }

    private String attributes() {
        StringBuilder all = new StringBuilder();
        int first = random.nextInt(5);
        int count = random.nextInt(3) == 0 ? random.nextInt(isOdd() ? 6 : 5) : random.nextInt(2);
        for (int i = 0; i < count; i++) {
            String name = isOdd() ? name() : NAMES[(first + i * 2) % 5];
            all.append(isOdd() ? "" : " ").append(spaces()).append(name).append(isOdd() ? " =" : "=")
                .append(isOdd() ? "'" : "\"").append(isOdd() ? "<" : oneOf(VALUES)).append("\"");
        }
        return all.append(spaces()).toString();
    }

    private String comment() {
        String inside = isOdd() ? oneOf(COMMENTS) : COMMENTS[random.nextInt(4)];
        return (isOdd() ? "<!-" : "<!--") + inside + (isOdd() ? "->" : "-->");
    }

    private String content(int depth) {
        StringBuilder all = new StringBuilder();
        int pieces = random.nextInt(7);
        for (int i = 0; i < pieces; i++) {
            int kind = random.nextInt(6);
            boolean mayNest = left > 0 && (depth < 6 || isOdd());
            if (kind < 3 && mayNest) {
                all.append(element(depth + 1));
            } else if (kind == 3) {
                all.append(comment());
            } else {
                all.append(isOdd() ? "&" : oneOf(TEXTS));
            }
        }
        return all.toString();
    }

    private String element(int depth) {
        left--;
        String name = name();
        if (random.nextInt(3) == 0 && depth > 1) {
            return "<" + name + attributes() + (isOdd() ? "/ >" : "/>");
        }
        return "<" + name + attributes() + ">" + content(depth) + "</" + (isOdd() ? name() : name) + spaces() + ">";
    }

    String make() {
        return element(1) + (isOdd() ? oneOf(TEXTS) : "");
    }
}
