/**
 * The consuming end of a single sign-on, with small issuers to feed it.
 * All rows are made in the constructors, so that no call makes an object.
 */
public final class AssertionGate {
    private static final int NONE = -1;
    private static final int TEXT_ROOM = 400;
    private static final int LABEL_ROOM = 8;
    private static final int ISSUER_COUNT = 4;
    private static final int LOWEST_MODULUS = 65521;
    private static final int MILLION = 1000000;

    private static final int FINE = 0;
    private static final int BANNED = -1;
    private static final int NO_MESSAGE = -2;
    private static final int ID_TWICE = -3;
    private static final int OTHER_KIND = -4;
    private static final int UNSIGNED = -5;
    private static final int BAD_SIG = -6;
    private static final int TWO_ISSUERS = -7;
    private static final int WRONG_ADDRESS = -8;
    private static final int NOT_OK = -9;
    private static final int NO_REQUEST = -10;
    private static final int WRONG_AUDIENCE = -11;
    private static final int OUT_OF_TIME = -12;
    private static final int NOT_CONFIRMED = -13;
    private static final int REPLAYED = -14;
    private static final int FULL = -15;
    private static final int LOGOUT_BASE = 100;

    private static final int ROOT = 0;
    // The assn of an issued response: behind the resp, its iss and its stat.
    private static final int ISSUED_ASSN = 3;

    private final Page text;
    private final Page scrap;
    private final Message message;
    private final Reader reader;
    private final Digester digester;
    private final Issuers issuers;
    private final Requests requests;
    private final Sessions sessions;
    private final Labels seen;
    private final Response response;
    private final Logout logout;
    private final int skew;
    private int clock;
    private int issued;

    public AssertionGate(int skew, int life) {
        this.text = new Page();
        this.scrap = new Page();
        this.message = new Message(text);
        this.reader = new Reader(text, message);
        this.digester = new Digester(text, message);
        this.issuers = new Issuers();
        this.requests = new Requests(life >= 1 && life <= 1000 ? life : 100);
        this.sessions = new Sessions();
        this.seen = new Labels(40);
        this.response = new Response(message);
        this.logout = new Logout(message);
        this.skew = skew >= 0 && skew <= 100 ? skew : 0;
        this.clock = 0;
        this.issued = 0;
    }

    public boolean trust(int k, int n, int e) {
        if (!isKeyPart(k, n, e)) {
            return false;
        }
        issuers.trustedModulus[k] = n;
        issuers.trustedExponent[k] = e;
        return true;
    }

    public boolean key(int k, int n, int d) {
        if (!isKeyPart(k, n, d)) {
            return false;
        }
        issuers.privateModulus[k] = n;
        issuers.privateExponent[k] = d;
        return true;
    }

    private static boolean isKeyPart(int k, int n, int exponent) {
        return k >= 0 && k < ISSUER_COUNT
            && n >= LOWEST_MODULUS && n <= MILLION
            && exponent >= 1 && exponent <= MILLION;
    }

    public boolean pass(int n) {
        if (n < 0 || n > 1000) {
            return false;
        }
        clock += n;
        return true;
    }

    public int request(int k) {
        return k >= 0 && k < ISSUER_COUNT ? requests.open(k, clock) : NONE;
    }

    public boolean issue(int k, int r, int u, int t, int how) {
        if (!issuers.canSeal(k) || !isBelow(r, 100) || !isBelow(u, 100) || !isBelow(t, 1000) || !isBelow(how, 4)) {
            return false;
        }
        text.shorten(0);
        putHead(k, r);
        putAssertion(k, r, u, clock + t);
        // A sig stands behind all that its digest covers: the elements are ended
        // to be read and digested, and their ends are taken off again for the sig.
        int behindCond = text.size;
        if (how == 1 || how == 3) {
            text.putWord("</assn></resp>");
            int v = sealOfRead(k, ISSUED_ASSN);
            text.shorten(behindCond);
            putSig('a', v);
        }
        text.putWord("</assn>");
        int behindAssn = text.size;
        if (how == 2 || how == 3) {
            text.putWord("</resp>");
            int w = sealOfRead(k, ROOT);
            text.shorten(behindAssn);
            putSig('r', w);
        }
        text.putWord("</resp>");
        issued++;
        return true;
    }

    private void putHead(int k, int r) {
        text.putWord("<resp id=\"r");
        text.putNumber(issued);
        text.putWord("\" irt=\"");
        text.putNumber(r);
        text.putWord("\" to=\"acs\">");
        putIssuer(k);
        text.putWord("<stat>ok</stat>");
    }

    private void putAssertion(int k, int r, int u, int until) {
        text.putWord("<assn id=\"a");
        text.putNumber(issued);
        text.putWord("\">");
        putIssuer(k);
        text.putWord("<subj>");
        putUser(u);
        text.putWord("<conf irt=\"");
        text.putNumber(r);
        text.putWord("\" noa=\"");
        text.putNumber(until);
        text.putWord("\" rcp=\"acs\"/></subj><cond aud=\"sp\" nb=\"");
        text.putNumber(clock);
        text.putWord("\" noa=\"");
        text.putNumber(until);
        text.putWord("\"/>");
    }

    private void putIssuer(int k) {
        text.putWord("<iss>p");
        text.putNumber(k);
        text.putWord("</iss>");
    }

    private void putUser(int u) {
        text.putWord("<name>u");
        text.putNumber(u);
        text.putWord("</name>");
    }

    private void putSig(char kind, int v) {
        text.putWord("<sig ref=\"");
        text.put(kind);
        text.putNumber(issued);
        text.putWord("\" v=\"");
        text.putNumber(v);
        text.putWord("\"/>");
    }

    public boolean leave(int k, int u) {
        if (!issuers.canSeal(k) || !isBelow(u, 100)) {
            return false;
        }
        text.shorten(0);
        text.putWord("<out id=\"o");
        text.putNumber(issued);
        text.putWord("\" to=\"acs\">");
        putIssuer(k);
        putUser(u);
        int behindName = text.size;
        text.putWord("</out>");
        int v = sealOfRead(k, ROOT);
        text.shorten(behindName);
        putSig('o', v);
        text.putWord("</out>");
        issued++;
        return true;
    }

    private static boolean isBelow(int n, int bound) {
        return n >= 0 && n < bound;
    }

    private static boolean isPrintable(char c) {
        return c >= 32 && c <= 126;
    }

    public boolean write(char c) {
        return isPrintable(c) && text.put(c);
    }

    public boolean set(int p, char c) {
        if (!isBelow(p, text.size) || !isPrintable(c)) {
            return false;
        }
        text.codes[p] = c;
        return true;
    }

    public boolean cut(int p, int q) {
        if (p < 0 || p > q || q > text.size) {
            return false;
        }
        text.moveOut(p, q, scrap);
        return true;
    }

    public boolean paste(int p) {
        if (p < 0 || p > text.size || text.size + scrap.size > TEXT_ROOM) {
            return false;
        }
        text.copyIn(p, scrap);
        return true;
    }

    public void clear() {
        text.shorten(0);
    }

    public int length() {
        return text.size;
    }

    public int at(int p) {
        return text.codeAt(p);
    }

    public int elements() {
        return reader.read();
    }

    public int digest(int k) {
        return k >= 0 && k < reader.read() ? digester.digestOf(k) : NONE;
    }

    public int seal(int i, int k) {
        return issuers.canSeal(i) ? sealOfRead(i, k) : NONE;
    }

    private int sealOfRead(int i, int k) {
        if (k < 0 || k >= reader.read()) {
            return NONE;
        }
        return issuers.sealOf(i, digester.digestOf(k));
    }

    public int consume() {
        int count = reader.read();
        if (count < 0) {
            return count;
        }
        if (message.repeatsAnId()) {
            return ID_TWICE;
        }
        if (response.isFound()) {
            return takeResponse();
        }
        return logout.isFound() ? takeLogout() : OTHER_KIND;
    }

    public int session(int s) {
        return sessions.stateOf(s);
    }

    public int name(int s, int i) {
        return sessions.names.codeAt(s, i);
    }

    public int outstanding() {
        return requests.openCount(clock);
    }

    private int takeResponse() {
        if (response.sig == NONE && response.assnSig == NONE) {
            return UNSIGNED;
        }
        if (response.sig != NONE && !isValid(response.sig, ROOT, response.iss)) {
            return BAD_SIG;
        }
        if (response.assnSig != NONE && !isValid(response.assnSig, response.assn, response.assnIss)) {
            return BAD_SIG;
        }
        if (!message.sameWord(response.iss, response.assnIss)) {
            return TWO_ISSUERS;
        }
        int k = trustedNamed(response.iss);
        int fault = faultOfTerms(k);
        if (fault != FINE) {
            return fault;
        }
        markSeen(response.assn);
        requests.answer(message.number(ROOT, "irt"));
        return sessions.open(k, text, message.bodyFrom(response.name), message.bodyTo(response.name));
    }

    private int faultOfTerms(int k) {
        if (!message.valueIs(ROOT, "to", "acs")) {
            return WRONG_ADDRESS;
        }
        if (!message.wordIs(response.stat, "ok")) {
            return NOT_OK;
        }
        if (!requests.awaits(message.number(ROOT, "irt"), k, clock)) {
            return NO_REQUEST;
        }
        if (!message.valueIs(response.cond, "aud", "sp")) {
            return WRONG_AUDIENCE;
        }
        if (message.number(response.cond, "nb") > clock + skew || hasRunOut(response.cond)) {
            return OUT_OF_TIME;
        }
        if (!message.valueIs(response.conf, "rcp", "acs")
                || !message.sameValue(response.conf, ROOT, "irt")
                || hasRunOut(response.conf)) {
            return NOT_CONFIRMED;
        }
        if (isSeen(response.assn)) {
            return REPLAYED;
        }
        return sessions.isFull() || seen.isFull() ? FULL : FINE;
    }

    private boolean hasRunOut(int element) {
        return message.number(element, "noa") <= clock - skew;
    }

    private int takeLogout() {
        if (logout.sig == NONE) {
            return UNSIGNED;
        }
        if (!isValid(logout.sig, ROOT, logout.iss)) {
            return BAD_SIG;
        }
        if (!message.valueIs(ROOT, "to", "acs")) {
            return WRONG_ADDRESS;
        }
        if (isSeen(ROOT)) {
            return REPLAYED;
        }
        if (seen.isFull()) {
            return FULL;
        }
        markSeen(ROOT);
        int k = trustedNamed(logout.iss);
        int from = message.bodyFrom(logout.name);
        return LOGOUT_BASE + sessions.end(k, text, from, message.bodyTo(logout.name));
    }

    private boolean isValid(int sig, int parent, int iss) {
        int k = trustedNamed(iss);
        if (k == NONE || !message.sameText(message.slotOf(sig, "ref"), message.slotOf(parent, "id"))) {
            return false;
        }
        return issuers.verifies(k, message.number(sig, "v"), digester.digestOf(parent));
    }

    private int trustedNamed(int iss) {
        int from = message.bodyFrom(iss);
        if (message.bodyTo(iss) - from != 2 || text.codeAt(from) != 'p') {
            return NONE;
        }
        int k = text.codeAt(from + 1) - '0';
        return issuers.isTrusted(k) ? k : NONE;
    }

    private boolean isSeen(int element) {
        int slot = message.slotOf(element, "id");
        return seen.find(text, message.valueFrom(slot), message.valueTo(slot)) != NONE;
    }

    private void markSeen(int element) {
        int slot = message.slotOf(element, "id");
        seen.keep(text, message.valueFrom(slot), message.valueTo(slot));
    }

    /** A list of characters in a fixed room: the text, or the scrap. */
    private static final class Page {
        final char[] codes;
        int size;

        Page() {
            codes = new char[TEXT_ROOM];
            size = 0;
        }

        int codeAt(int p) {
            return p >= 0 && p < size ? codes[p] : NONE;
        }

        boolean put(char c) {
            if (size >= TEXT_ROOM) {
                return false;
            }
            codes[size] = c;
            size++;
            return true;
        }

        void putWord(String word) {
            for (int i = 0; i < word.length(); i++) {
                put(word.charAt(i));
            }
        }

        void putNumber(int n) {
            int unit = 1;
            for (int i = 0; i < 9 && n / unit >= 10; i++) {
                unit *= 10;
            }
            for (; unit > 0; unit /= 10) {
                put((char) ('0' + n / unit % 10));
            }
        }

        void shorten(int newSize) {
            if (newSize >= 0 && newSize <= size) {
                size = newSize;
            }
        }

        void moveOut(int from, int to, Page other) {
            if (from < 0 || from > to || to > size) {
                return;
            }
            System.arraycopy(codes, from, other.codes, 0, to - from);
            other.size = to - from;
            System.arraycopy(codes, to, codes, from, size - to);
            size -= to - from;
        }

        void copyIn(int p, Page other) {
            if (p < 0 || p > size || size + other.size > TEXT_ROOM) {
                return;
            }
            System.arraycopy(codes, p, codes, p + other.size, size - p);
            System.arraycopy(other.codes, 0, codes, p, other.size);
            size += other.size;
        }

        int afterLetters(int p) {
            int q = p;
            while (q >= 0 && q < size && codes[q] >= 'a' && codes[q] <= 'z') {
                q++;
            }
            return q;
        }

        int afterSpaces(int p) {
            int q = p;
            while (q < size && codeAt(q) == ' ') {
                q++;
            }
            return q;
        }

        boolean hasDashes(int p) {
            return codeAt(p) == '-' && codeAt(p + 1) == '-';
        }

        // The first two dashes must be those of the comment's end: this refuses
        // two dashes inside as well as one dash before the end.
        int afterComment(int p) {
            int q = p + 4;
            while (q < size && !hasDashes(q)) {
                q++;
            }
            return codeAt(q + 2) == '>' ? q + 3 : NONE;
        }

        boolean isWord(int from, int to, String word) {
            if (from < 0 || to > size || to - from != word.length()) {
                return false;
            }
            for (int i = 0; i < word.length(); i++) {
                if (codes[from + i] != word.charAt(i)) {
                    return false;
                }
            }
            return true;
        }

        int order(int from, int to, int otherFrom, int otherTo) {
            int both = Math.min(to - from, otherTo - otherFrom);
            for (int i = 0; i < both; i++) {
                int gap = codeAt(from + i) - codeAt(otherFrom + i);
                if (gap != 0) {
                    return gap;
                }
            }
            return (to - from) - (otherTo - otherFrom);
        }
    }

    /**
     * The elements of a text that has been read, as places in it. An attribute is
     * known by its slot; the slots of an element are in rising order of the names.
     */
    private static final class Message {
        static final int MOST_ELEMENTS = 20;
        static final int MOST_ATTRIBUTES = 4;
        static final int MOST_DIGITS = 9;

        final Page page;
        int count;
        final int[] parent;
        final int[] start;
        final int[] nameEnd;
        final int[] bodyStart;
        final int[] bodyEnd;
        final int[] end;
        final int[] attributes;
        final int[] slotStart;
        final int[] valueStart;
        final int[] valueEnd;

        Message(Page page) {
            this.page = page;
            count = 0;
            parent = new int[MOST_ELEMENTS];
            start = new int[MOST_ELEMENTS];
            nameEnd = new int[MOST_ELEMENTS];
            bodyStart = new int[MOST_ELEMENTS];
            bodyEnd = new int[MOST_ELEMENTS];
            end = new int[MOST_ELEMENTS];
            attributes = new int[MOST_ELEMENTS];
            slotStart = new int[MOST_ELEMENTS * MOST_ATTRIBUTES];
            valueStart = new int[MOST_ELEMENTS * MOST_ATTRIBUTES];
            valueEnd = new int[MOST_ELEMENTS * MOST_ATTRIBUTES];
        }

        boolean holds(int e) {
            return e >= 0 && e < count;
        }

        int add(int parentElement, int from, int nameTo) {
            if (count >= MOST_ELEMENTS) {
                return NONE;
            }
            int e = count;
            count++;
            parent[e] = parentElement;
            start[e] = from;
            nameEnd[e] = nameTo;
            attributes[e] = 0;
            return e;
        }

        // The name's end is not kept: it is two places (= and ") before the value.
        boolean keepAttribute(int e, int from, int nameTo, int valueTo) {
            if (!holds(e) || attributes[e] >= MOST_ATTRIBUTES) {
                return false;
            }
            int first = e * MOST_ATTRIBUTES;
            int slot = first + attributes[e];
            for (; slot > first; slot--) {
                int order = page.order(from, nameTo, slotStart[slot - 1], valueStart[slot - 1] - 2);
                if (order == 0) {
                    return false;
                }
                if (order > 0) {
                    break;
                }
                slotStart[slot] = slotStart[slot - 1];
                valueStart[slot] = valueStart[slot - 1];
                valueEnd[slot] = valueEnd[slot - 1];
            }
            slotStart[slot] = from;
            valueStart[slot] = nameTo + 2;
            valueEnd[slot] = valueTo;
            attributes[e]++;
            return true;
        }

        boolean isNamed(int e, String word) {
            return holds(e) && page.isWord(start[e] + 1, nameEnd[e], word);
        }

        int childCount(int e, String word) {
            int found = 0;
            for (int c = 0; c < count && e >= 0; c++) {
                if (parent[c] == e && isNamed(c, word)) {
                    found++;
                }
            }
            return found;
        }

        int lastChild(int e, String word) {
            for (int c = count - 1; c > e && e >= 0; c--) {
                if (parent[c] == e && isNamed(c, word)) {
                    return c;
                }
            }
            return NONE;
        }

        int onlyChild(int e, String word) {
            return childCount(e, word) == 1 ? lastChild(e, word) : NONE;
        }

        int bodyFrom(int e) {
            return holds(e) ? bodyStart[e] : 0;
        }

        int bodyTo(int e) {
            return holds(e) ? bodyEnd[e] : 0;
        }

        boolean hasWord(int e) {
            int from = bodyFrom(e);
            int to = bodyTo(e);
            if (to - from < 1 || to - from > LABEL_ROOM) {
                return false;
            }
            for (int p = from; p < to; p++) {
                if (page.codeAt(p) == '<') {
                    return false;
                }
            }
            return true;
        }

        boolean wordIs(int e, String word) {
            return page.isWord(bodyFrom(e), bodyTo(e), word);
        }

        boolean sameWord(int e, int other) {
            return page.order(bodyFrom(e), bodyTo(e), bodyFrom(other), bodyTo(other)) == 0;
        }

        int slotOf(int e, String word) {
            if (!holds(e)) {
                return NONE;
            }
            int first = e * MOST_ATTRIBUTES;
            for (int slot = first; slot < first + attributes[e]; slot++) {
                if (page.isWord(slotStart[slot], valueStart[slot] - 2, word)) {
                    return slot;
                }
            }
            return NONE;
        }

        boolean has(int e, String word) {
            return slotOf(e, word) != NONE;
        }

        int valueFrom(int slot) {
            return slot >= 0 && slot < valueStart.length ? valueStart[slot] : 0;
        }

        int valueTo(int slot) {
            return slot >= 0 && slot < valueEnd.length ? valueEnd[slot] : 0;
        }

        boolean valueIs(int e, String word, String value) {
            int slot = slotOf(e, word);
            return slot != NONE && page.isWord(valueFrom(slot), valueTo(slot), value);
        }

        boolean sameText(int slot, int other) {
            return slot != NONE && other != NONE
                && page.order(valueFrom(slot), valueTo(slot), valueFrom(other), valueTo(other)) == 0;
        }

        boolean sameValue(int e, int other, String word) {
            return sameText(slotOf(e, word), slotOf(other, word));
        }

        boolean hasKey(int e, String word) {
            int slot = slotOf(e, word);
            int size = valueTo(slot) - valueFrom(slot);
            return size >= 1 && size <= LABEL_ROOM;
        }

        boolean hasNumber(int e, String word) {
            return number(e, word) != NONE;
        }

        int number(int e, String word) {
            int slot = slotOf(e, word);
            int from = valueFrom(slot);
            int to = valueTo(slot);
            if (to - from < 1 || to - from > MOST_DIGITS) {
                return NONE;
            }
            int n = 0;
            for (int p = from; p < to; p++) {
                int digit = page.codeAt(p) - '0';
                if (digit < 0 || digit > 9) {
                    return NONE;
                }
                n = n * 10 + digit;
            }
            return n;
        }

        boolean repeatsAnId() {
            for (int e = 0; e < count; e++) {
                int slot = slotOf(e, "id");
                for (int other = 0; other < e && slot != NONE; other++) {
                    if (sameText(slot, slotOf(other, "id"))) {
                        return true;
                    }
                }
            }
            return false;
        }

        boolean hasSoundSigs(int e) {
            int sigs = childCount(e, "sig");
            int sig = lastChild(e, "sig");
            return sigs == 0 || sigs == 1 && has(sig, "ref") && number(sig, "v") != NONE;
        }
    }

    /** Reads the text strictly, from its first to its last character, into the message. */
    private static final class Reader {
        static final int DEEPEST = 6;
        static final int LONGEST_NAME = 6;

        final Page page;
        final Message message;
        int open;
        int depth;

        Reader(Page page, Message message) {
            this.page = page;
            this.message = message;
            open = NONE;
            depth = 0;
        }

        // A text that is no message leaves no element behind.
        int read() {
            message.count = 0;
            open = NONE;
            depth = 0;
            if (isBanned()) {
                return BANNED;
            }
            int p = afterStartTag(0);
            for (int step = 0; step < TEXT_ROOM && p != NONE && open != NONE; step++) {
                int next = page.codeAt(p) == '<' ? page.codeAt(p + 1) : NONE;
                if (page.codeAt(p) != '<') {
                    p = p < page.size ? p + 1 : NONE;
                } else if (next == '!') {
                    p = page.afterComment(p);
                } else {
                    p = next == '/' ? afterEndTag(p) : afterStartTag(p);
                }
            }
            if (p != page.size || open != NONE) {
                message.count = 0;
                return NO_MESSAGE;
            }
            return message.count;
        }

        private boolean isBanned() {
            for (int p = 0; p < page.size; p++) {
                int c = page.codeAt(p);
                if (c == '&') {
                    return true;
                }
                int next = c == '<' ? page.codeAt(p + 1) : NONE;
                if (next == '?' || next == '!' && !page.hasDashes(p + 2)) {
                    return true;
                }
            }
            return false;
        }

        private int afterName(int p) {
            int q = page.afterLetters(p);
            return q - p >= 1 && q - p <= LONGEST_NAME ? q : NONE;
        }

        private int afterStartTag(int p) {
            int nameTo = afterName(p + 1);
            if (page.codeAt(p) != '<' || nameTo == NONE || depth >= DEEPEST) {
                return NONE;
            }
            int e = message.add(open, p, nameTo);
            if (e == NONE) {
                return NONE;
            }
            int q = afterAttributes(e, nameTo);
            boolean isWhole = page.codeAt(q) == '/' && page.codeAt(q + 1) == '>';
            if (!isWhole && page.codeAt(q) != '>') {
                return NONE;
            }
            int behind = isWhole ? q + 2 : q + 1;
            message.bodyStart[e] = behind;
            message.bodyEnd[e] = behind;
            message.end[e] = behind;
            if (!isWhole) {
                open = e;
                depth++;
            }
            return behind;
        }

        private int afterAttributes(int e, int p) {
            int q = p;
            for (int i = 0; i <= Message.MOST_ATTRIBUTES; i++) {
                int from = page.afterSpaces(q);
                if (from == q || page.afterLetters(from) == from) {
                    return from;
                }
                int nameTo = afterName(from);
                int quote = closingQuote(nameTo);
                if (quote == NONE || !message.keepAttribute(e, from, nameTo, quote)) {
                    return NONE;
                }
                q = quote + 1;
            }
            return NONE;
        }

        private int closingQuote(int p) {
            if (page.codeAt(p) != '=' || page.codeAt(p + 1) != '"') {
                return NONE;
            }
            int q = p + 2;
            while (q < page.size && page.codeAt(q) != '"' && page.codeAt(q) != '<') {
                q++;
            }
            return page.codeAt(q) == '"' ? q : NONE;
        }

        private int afterEndTag(int p) {
            int nameTo = afterName(p + 2);
            if (nameTo == NONE || !message.holds(open)) {
                return NONE;
            }
            if (page.order(p + 2, nameTo, message.start[open] + 1, message.nameEnd[open]) != 0) {
                return NONE;
            }
            int q = page.afterSpaces(nameTo);
            if (page.codeAt(q) != '>') {
                return NONE;
            }
            message.bodyEnd[open] = p;
            message.end[open] = q + 1;
            open = message.parent[open];
            depth--;
            return q + 1;
        }
    }

    /**
     * Digests an element of a text that has been read, in one walk along the text:
     * the canonical form is never written down.
     */
    private static final class Digester {
        final Page page;
        final Message message;
        int digest;
        int next;

        Digester(Page page, Message message) {
            this.page = page;
            this.message = message;
            digest = 0;
            next = 0;
        }

        int digestOf(int e) {
            digest = 0;
            next = e;
            if (!message.holds(e)) {
                return digest;
            }
            int p = message.start[e];
            for (int step = 0; step < TEXT_ROOM && p != NONE && p < message.end[e]; step++) {
                int follower = page.codeAt(p) == '<' ? page.codeAt(p + 1) : NONE;
                if (page.codeAt(p) != '<') {
                    fold(page.codeAt(p));
                    p++;
                } else if (follower == '!') {
                    p = page.afterComment(p);
                } else {
                    p = follower == '/' ? foldEndTag(p) : foldStartTag(e);
                }
            }
            return digest;
        }

        private int foldEndTag(int p) {
            int nameTo = page.afterLetters(p + 2);
            foldEnd(p + 2, nameTo);
            return page.afterSpaces(nameTo) + 1;
        }

        // Elements begin in the order of their numbers, so the next one is known.
        private int foldStartTag(int top) {
            int e = next;
            if (!message.holds(e)) {
                return NONE;
            }
            if (message.parent[e] == top && message.isNamed(e, "sig")) {
                passOver(e);
                return message.end[e];
            }
            next++;
            fold('<');
            foldSpan(message.start[e] + 1, message.nameEnd[e]);
            int first = e * Message.MOST_ATTRIBUTES;
            for (int slot = first; slot < first + message.attributes[e]; slot++) {
                fold(' ');
                foldSpan(message.slotStart[slot], message.valueEnd[slot] + 1);
            }
            fold('>');
            if (message.bodyStart[e] == message.end[e]) {
                foldEnd(message.start[e] + 1, message.nameEnd[e]);
            }
            return message.bodyStart[e];
        }

        private void passOver(int e) {
            int behind = message.end[e];
            while (next < message.count && message.start[next] < behind) {
                next++;
            }
        }

        private void foldEnd(int nameFrom, int nameTo) {
            fold('<');
            fold('/');
            foldSpan(nameFrom, nameTo);
            fold('>');
        }

        private void foldSpan(int from, int to) {
            for (int p = from; p < to; p++) {
                fold(page.codeAt(p));
            }
        }

        private void fold(int c) {
            digest = (digest * 257 + c) % 65521;
        }
    }

    /** What the issuers are trusted with, and their private keys; a modulus of 0 tells of none. */
    private static final class Issuers {
        final int[] trustedModulus;
        final int[] trustedExponent;
        final int[] privateModulus;
        final int[] privateExponent;

        Issuers() {
            trustedModulus = new int[ISSUER_COUNT];
            trustedExponent = new int[ISSUER_COUNT];
            privateModulus = new int[ISSUER_COUNT];
            privateExponent = new int[ISSUER_COUNT];
        }

        boolean isTrusted(int k) {
            return k >= 0 && k < ISSUER_COUNT && trustedModulus[k] != 0;
        }

        boolean canSeal(int k) {
            return k >= 0 && k < ISSUER_COUNT && privateModulus[k] != 0;
        }

        int sealOf(int k, int digest) {
            return canSeal(k) ? power(digest, privateExponent[k], privateModulus[k]) : NONE;
        }

        boolean verifies(int k, int v, int digest) {
            return isTrusted(k) && v >= 0 && v < trustedModulus[k]
                && power(v, trustedExponent[k], trustedModulus[k]) == digest;
        }

        private static int power(int base, int exponent, int modulus) {
            if (modulus <= 0) {
                return NONE;
            }
            long square = base % modulus;
            long product = 1 % modulus;
            for (int left = exponent; left > 0; left >>= 1) {
                if ((left & 1) == 1) {
                    product = product * square % modulus;
                }
                square = square * square % modulus;
            }
            return (int) product;
        }
    }

    /** The requests that were made, with the issuer and the clock of each. */
    private static final class Requests {
        static final int MOST = 30;

        final int life;
        final int[] issuer;
        final int[] madeAt;
        final boolean[] answered;
        int count;

        Requests(int life) {
            this.life = life;
            issuer = new int[MOST];
            madeAt = new int[MOST];
            answered = new boolean[MOST];
            count = 0;
        }

        int open(int k, int clock) {
            if (count >= MOST) {
                return NONE;
            }
            issuer[count] = k;
            madeAt[count] = clock;
            count++;
            return count - 1;
        }

        boolean isOpen(int r, int clock) {
            return r >= 0 && r < count && !answered[r] && clock < madeAt[r] + life;
        }

        boolean awaits(int r, int k, int clock) {
            return isOpen(r, clock) && issuer[r] == k;
        }

        void answer(int r) {
            if (r >= 0 && r < count) {
                answered[r] = true;
            }
        }

        int openCount(int clock) {
            int found = 0;
            for (int r = 0; r < count; r++) {
                if (isOpen(r, clock)) {
                    found++;
                }
            }
            return found;
        }
    }

    /** Short texts, kept apart from the page that they come from: it changes. */
    private static final class Labels {
        final int room;
        final char[] codes;
        final int[] sizes;
        int count;

        Labels(int room) {
            this.room = room;
            codes = new char[room * LABEL_ROOM];
            sizes = new int[room];
            count = 0;
        }

        boolean isFull() {
            return count >= room;
        }

        void keep(Page page, int from, int to) {
            if (isFull() || to - from > LABEL_ROOM) {
                return;
            }
            for (int p = from; p < to; p++) {
                codes[count * LABEL_ROOM + p - from] = (char) page.codeAt(p);
            }
            sizes[count] = to - from;
            count++;
        }

        int codeAt(int label, int i) {
            boolean isThere = label >= 0 && label < count && i >= 0 && i < sizes[label];
            return isThere ? codes[label * LABEL_ROOM + i] : NONE;
        }

        boolean isLabel(int label, Page page, int from, int to) {
            if (label < 0 || label >= count || sizes[label] != to - from) {
                return false;
            }
            for (int p = from; p < to; p++) {
                if (codeAt(label, p - from) != page.codeAt(p)) {
                    return false;
                }
            }
            return true;
        }

        int find(Page page, int from, int to) {
            for (int label = 0; label < count; label++) {
                if (isLabel(label, page, from, to)) {
                    return label;
                }
            }
            return NONE;
        }
    }

    /** The sessions, open and ended; the label of a session is its name. */
    private static final class Sessions {
        static final int MOST = 20;

        final int[] issuer;
        final boolean[] isOpen;
        final Labels names;

        Sessions() {
            issuer = new int[MOST];
            isOpen = new boolean[MOST];
            names = new Labels(MOST);
        }

        boolean isFull() {
            return names.isFull();
        }

        int open(int k, Page page, int from, int to) {
            if (isFull()) {
                return NONE;
            }
            int s = names.count;
            names.keep(page, from, to);
            issuer[s] = k;
            isOpen[s] = true;
            return s;
        }

        int end(int k, Page page, int from, int to) {
            int ended = 0;
            for (int s = 0; s < names.count && s < MOST; s++) {
                if (isOpen[s] && issuer[s] == k && names.isLabel(s, page, from, to)) {
                    isOpen[s] = false;
                    ended++;
                }
            }
            return ended;
        }

        int stateOf(int s) {
            if (s < 0 || s >= names.count || s >= MOST) {
                return NONE;
            }
            return isOpen[s] ? 1 + issuer[s] : 0;
        }
    }

    /** Where the parts of a response stand among the elements of the message. */
    private static final class Response {
        final Message message;
        int iss;
        int stat;
        int assn;
        int sig;
        int assnIss;
        int cond;
        int subj;
        int assnSig;
        int name;
        int conf;

        Response(Message message) {
            this.message = message;
        }

        boolean isFound() {
            findParts();
            return message.isNamed(ROOT, "resp") && isHeadSound() && isAssnSound() && isSubjSound();
        }

        private void findParts() {
            iss = message.onlyChild(ROOT, "iss");
            stat = message.onlyChild(ROOT, "stat");
            assn = message.onlyChild(ROOT, "assn");
            sig = message.lastChild(ROOT, "sig");
            assnIss = message.onlyChild(assn, "iss");
            cond = message.onlyChild(assn, "cond");
            subj = message.onlyChild(assn, "subj");
            assnSig = message.lastChild(assn, "sig");
            name = message.onlyChild(subj, "name");
            conf = message.onlyChild(subj, "conf");
        }

        private boolean isHeadSound() {
            return message.hasKey(ROOT, "id") && message.has(ROOT, "to") && message.has(ROOT, "irt")
                && message.hasWord(iss) && message.hasWord(stat) && message.hasSoundSigs(ROOT);
        }

        private boolean isAssnSound() {
            return message.hasKey(assn, "id") && message.hasWord(assnIss) && message.hasSoundSigs(assn)
                && message.has(cond, "aud") && message.hasNumber(cond, "nb") && message.hasNumber(cond, "noa");
        }

        private boolean isSubjSound() {
            return message.hasWord(name)
                && message.has(conf, "irt") && message.has(conf, "rcp") && message.hasNumber(conf, "noa");
        }
    }

    /** Where the parts of a logout stand among the elements of the message. */
    private static final class Logout {
        final Message message;
        int iss;
        int name;
        int sig;

        Logout(Message message) {
            this.message = message;
        }

        boolean isFound() {
            iss = message.onlyChild(ROOT, "iss");
            name = message.onlyChild(ROOT, "name");
            sig = message.lastChild(ROOT, "sig");
            return message.isNamed(ROOT, "out") && message.hasKey(ROOT, "id") && message.has(ROOT, "to")
                && message.hasWord(iss) && message.hasWord(name) && message.hasSoundSigs(ROOT);
        }
    }
}
