/** Promises 4, 5 and 21: pass, request, outstanding; and the bounds of SKEW and LIFE. */
public final class RequestTest {
    private static void passing() {
        Desk desk = Desk.ready(0, 100);
        for (int n : new int[] {-1, 1001, Integer.MIN_VALUE, Integer.MAX_VALUE}) {
            Due.no("pass " + n, desk.gate().pass(n));
        }
        Due.yes("pass 0", desk.gate().pass(0));
        Due.is("the clock stands", desk.gate().outstanding(), 1);
        Due.yes("pass 99", desk.gate().pass(99));
        Due.is("just outstanding", desk.gate().outstanding(), 1);
        Due.yes("pass 1", desk.gate().pass(1));
        Due.is("no more outstanding", desk.gate().outstanding(), 0);
        Due.yes("pass 1000", desk.gate().pass(1000));
    }

    private static void requests() {
        Desk desk = new Desk(0, 100);
        for (int k : new int[] {-1, 4, Integer.MIN_VALUE, Integer.MAX_VALUE}) {
            Due.is("request to " + k, desk.gate().request(k), -1);
        }
        for (int r = 0; r < 30; r++) {
            Due.is("request", desk.gate().request(r % 4), r);
            Due.is("outstanding", desk.gate().outstanding(), r + 1);
        }
        Due.is("the 31st request", desk.gate().request(0), -1);
        Due.is("outstanding", desk.gate().outstanding(), 30);
        Due.yes("pass", desk.gate().pass(100));
        Due.is("all have run out", desk.gate().outstanding(), 0);
        Due.is("30 were made", desk.gate().request(0), -1);
    }

    private static void livesFor(int given, int want) {
        Desk desk = new Desk(0, given);
        Due.yes("pass", desk.gate().pass(7));
        Due.is("request", desk.gate().request(0), 0);
        Due.yes("pass", desk.gate().pass(want - 1));
        Due.is("outstanding for life " + given, desk.gate().outstanding(), 1);
        Due.yes("pass", desk.gate().pass(1));
        Due.is("run out for life " + given, desk.gate().outstanding(), 0);
    }

    private static void lives() {
        int[][] lives = {{1, 1}, {2, 2}, {1000, 1000}, {0, 100}, {-5, 100}, {1001, 100}, {999, 999},
            {Integer.MIN_VALUE, 100}, {Integer.MAX_VALUE, 100}};
        for (int[] life : lives) {
            livesFor(life[0], life[1]);
        }
    }

    private static int consumeAt(int skew, String nb, String noa, String confNoa) {
        Draft draft = new Draft();
        draft.nb = nb;
        draft.noa = noa;
        draft.confNoa = confNoa;
        Desk desk = Desk.ready(skew, 1000).fill(draft.text());
        Due.yes("pass", desk.gate().pass(500));
        return desk.gate().consume();
    }

    private static void skewsTo(int given, int want) {
        String late = "" + (500 + want);
        String early = "" + (501 - want);
        Due.is("nb at its latest, skew " + given, consumeAt(given, late, "900", "900"), 0);
        Due.is("nb too late, skew " + given, consumeAt(given, "" + (501 + want), "900", "900"), -12);
        Due.is("noa at its earliest, skew " + given, consumeAt(given, "0", early, "900"), 0);
        Due.is("noa too early, skew " + given, consumeAt(given, "0", "" + (500 - want), "900"), -12);
        Due.is("noa of conf at its earliest, skew " + given, consumeAt(given, "0", "900", early), 0);
        Due.is("noa of conf too early, skew " + given, consumeAt(given, "0", "900", "" + (500 - want)), -13);
    }

    private static void skews() {
        int[][] skews = {{0, 0}, {1, 1}, {100, 100}, {101, 0}, {-1, 0}, {Integer.MAX_VALUE, 0}, {Integer.MIN_VALUE, 0}};
        for (int[] skew : skews) {
            skewsTo(skew[0], skew[1]);
        }
    }

    private static void answeredRequests() {
        Desk desk = Desk.ready(0, 100);
        Due.is("request", desk.gate().request(1), 1);
        Due.is("request", desk.gate().request(0), 2);
        Due.is("outstanding", desk.gate().outstanding(), 3);
        Due.is("accepted", desk.takeIssued(1, 1, 5, 1), 0);
        Due.is("one was answered", desk.gate().outstanding(), 2);
        Due.is("answered again", desk.takeIssued(1, 1, 5, 1), -10);
        Due.is("a refusal answers none", desk.gate().outstanding(), 2);
        Due.yes("pass", desk.gate().pass(50));
        Due.is("request", desk.gate().request(0), 3);
        Due.yes("pass", desk.gate().pass(50));
        Due.is("the old ones have run out", desk.gate().outstanding(), 1);
        Due.is("late answer", desk.takeIssued(0, 2, 5, 1), -10);
        Due.is("answer in time", desk.takeIssued(0, 3, 5, 1), 1);
        Due.is("none is left", desk.gate().outstanding(), 0);
    }

    public static void main(String[] args) {
        passing();
        requests();
        lives();
        skews();
        answeredRequests();
        Due.end();
    }
}
