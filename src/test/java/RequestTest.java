/** Promises 4, 5 and 21: pass, request, outstanding; and the bounds of LIFE. */
public final class RequestTest {
    /** "The clock goes on by n; false if n is not 0 .. 1000." */
    private static void passing() {
        Desk desk = Desk.ready(0, 100);
        for (int n : new int[] {-1, 1001, Integer.MIN_VALUE, Integer.MAX_VALUE}) {
            Due.no("pass " + n, desk.gate().pass(n));
        }
        Due.yes("pass 0", desk.gate().pass(0));
        Due.is("the clock stands", desk.gate().outstanding(), 1);
        Due.yes("pass 99", desk.gate().pass(99));
        Due.is("just outstanding", desk.gate().outstanding(), 1);
        Due.yes("pass 1", desk.gate().pass(1));
        Due.is("no more outstanding", desk.gate().outstanding(), 0);
        Due.yes("pass 1000", desk.gate().pass(1000));
    }

    /** The clock, as an issuer writes it: what pass was told, and not what it refused. */
    private static void clockGoesOn() {
        int[][] passes = {{0, 1}, {1, 1}, {999, 1}, {1000, 1}, {-1, 0}, {1001, 0}, {2, 1}};
        Desk desk = new Desk(0, 100).withIssuers();
        int clock = 0;
        for (int[] pass : passes) {
            Due.is("pass " + pass[0], desk.gate().pass(pass[0]) ? 1 : 0, pass[1]);
            clock += pass[0] * pass[1];
            Due.yes("issue", desk.gate().issue(0, 0, 0, 0, 0));
            String want = "nb=\"" + clock + "\"";
            int from = desk.gate().length() - (want + " noa=\"" + clock + "\"/></assn></resp>").length();
            for (int i = 0; i < want.length(); i++) {
                Due.is("clock " + clock + " at " + i, desk.gate().at(from + i), want.charAt(i));
            }
        }
    }

    /** "its number; -1 if k is not 0 .. 3 or 30 were made": also if they are not outstanding any more */
    private static void requests() {
        Desk desk = new Desk(0, 100);
        for (int k : new int[] {-1, 4, Integer.MIN_VALUE, Integer.MAX_VALUE}) {
            Due.is("request to " + k, desk.gate().request(k), -1);
        }
        for (int r = 0; r < 30; r++) {
            Due.is("request", desk.gate().request(r % 4), r);
            Due.is("outstanding", desk.gate().outstanding(), r + 1);
        }
        Due.is("the 31st request", desk.gate().request(0), -1);
        Due.is("outstanding", desk.gate().outstanding(), 30);
        Due.yes("pass", desk.gate().pass(100));
        Due.is("all have run out", desk.gate().outstanding(), 0);
        Due.is("30 were made", desk.gate().request(0), -1);
    }

    /** Refused requests take no number; answered ones and those that have run out keep theirs. */
    private static void numbersOfRequests() {
        Desk desk = Desk.ready(0, 10);
        Due.is("accepted", desk.takeIssued(0, 0, 1, 1), 0);
        Due.is("refused", desk.gate().request(4), -1);
        Due.is("behind an answered one", desk.gate().request(3), 1);
        desk.gate().pass(10);
        Due.is("none is outstanding", desk.gate().outstanding(), 0);
        Due.is("behind one that has run out", desk.gate().request(0), 2);
        Due.is("one is outstanding", desk.gate().outstanding(), 1);
    }

    /** "LIFE is the constructor's, if that is 1 .. 1000, else 100" */
    private static void livesFor(int given, int want) {
        Desk desk = new Desk(0, given);
        Due.yes("pass", desk.gate().pass(7));
        Due.is("request", desk.gate().request(0), 0);
        Due.yes("pass", desk.gate().pass(want - 1));
        Due.is("outstanding for life " + given, desk.gate().outstanding(), 1);
        Due.yes("pass", desk.gate().pass(1));
        Due.is("run out for life " + given, desk.gate().outstanding(), 0);
    }

    private static void lives() {
        int[][] lives = {{1, 1}, {2, 2}, {1000, 1000}, {0, 100}, {-5, 100}, {1001, 100}, {999, 999},
            {Integer.MIN_VALUE, 100}, {Integer.MAX_VALUE, 100}};
        for (int[] life : lives) {
            livesFor(life[0], life[1]);
        }
    }

    /** "It is OUTSTANDING from its making on until a response to it is accepted" */
    private static void answeredRequests() {
        Desk desk = Desk.ready(0, 100);
        Due.is("request", desk.gate().request(1), 1);
        Due.is("request", desk.gate().request(0), 2);
        Due.is("outstanding", desk.gate().outstanding(), 3);
        Due.is("accepted", desk.takeIssued(1, 1, 5, 1), 0);
        Due.is("one was answered", desk.gate().outstanding(), 2);
        Due.is("answered again", desk.takeIssued(1, 1, 5, 1), -10);
        Due.is("a refusal answers none", desk.gate().outstanding(), 2);
        Due.yes("pass", desk.gate().pass(50));
        Due.is("request", desk.gate().request(0), 3);
        Due.yes("pass", desk.gate().pass(50));
        Due.is("the old ones have run out", desk.gate().outstanding(), 1);
        Due.is("late answer", desk.takeIssued(0, 2, 5, 1), -10);
        Due.is("answer in time", desk.takeIssued(0, 3, 5, 1), 1);
        Due.is("none is left", desk.gate().outstanding(), 0);
    }

    public static void main(String[] args) {
        passing();
        clockGoesOn();
        requests();
        numbersOfRequests();
        lives();
        answeredRequests();
        Due.end();
    }
}
