/**
 * How long a copy is fresh, stale meanwhile, stale since it is soft, stale on errors, and how long an error is kept in
 * mind: the second before each boundary, the boundary, and the second behind it, for the least and the most of each.
 */
public final class LivesTest {
    /** A page of two pieces and of these rules, a place of delay 1, a copy of piece 0 that was told in second 1. */
    private static EdgeOrchard withCopy(int life, int meanwhile, int onErrors) {
        EdgeOrchard x = new EdgeOrchard();
        x.page(2, 0, life, meanwhile, onErrors, 0);
        x.place(-1, 1, 40, false);
        x.ask(0, 0, 0, 0, 0, 0);
        x.pass(1);
        return x;
    }

    private static void passTo(EdgeOrchard x, int second) {
        while (x.second() < second) {
            x.pass(Math.min(100, second - x.second()));
        }
    }

    /** Asks for piece 0 in that second: what becomes of it at once, and how many fetches are made for it. */
    private static void askedAt(EdgeOrchard x, int second, String what, String want, int wantFetches) {
        passTo(x, second);
        int fetches = x.fetches();
        int ask = x.ask(0, 0, 0, 0, 0, 0);
        Check.same(what + " in second " + second, Look.answer(x, ask), want);
        Check.due(what + " in second " + second + ", fetches()", x.fetches() - fetches, wantFetches);
    }

    /**
     * "if it is not soft, and the second is less than its time and its life together, it is given, fresh. Otherwise, if it
     * is less than its time, its life, and how long it may be stale meanwhile, together, it is given, stale".
     */
    private static void freshAndStale(int life, int meanwhile) {
        int[] behind = {0, life - 1, life, life + 1, life + meanwhile - 1, life + meanwhile, life + meanwhile + 1};
        for (int seconds : behind) {
            if (seconds < 0) {
                continue;
            }
            boolean isFresh = seconds < life;
            boolean isStale = !isFresh && seconds < life + meanwhile;
            askedAt(withCopy(life, meanwhile, 0), 1 + seconds, "life " + life + ", meanwhile " + meanwhile,
                    isFresh ? "fresh 1 1" : isStale ? "stale 1 1" : "waiting", isFresh ? 0 : 1);
        }
    }

    /** The same with the figures written out, so that no sum stands behind them. */
    private static void theLongestOfAll() {
        askedAt(withCopy(100, 50, 0), 100, "the longest", "fresh 1 1", 0);
        askedAt(withCopy(100, 50, 0), 101, "the longest", "stale 1 1", 1);
        askedAt(withCopy(100, 50, 0), 150, "the longest", "stale 1 1", 1);
        askedAt(withCopy(100, 50, 0), 151, "the longest", "waiting", 1);
        askedAt(withCopy(1, 0, 0), 1, "a life of 1", "fresh 1 1", 0);
        askedAt(withCopy(1, 0, 0), 2, "a life of 1", "waiting", 1);
        askedAt(withCopy(0, 1, 0), 1, "no life", "stale 1 1", 1);
        askedAt(withCopy(0, 1, 0), 2, "no life", "waiting", 1);
        askedAt(withCopy(0, 0, 200), 1, "nothing but on errors", "waiting", 1);
    }

    /**
     * "for a soft one, whatever its life: than the second since which it is soft, and how long it may be stale
     * meanwhile": also longer than its life would let it, and shorter.
     */
    private static void soft(int life, int meanwhile, int since) {
        for (int seconds : new int[] {0, 1, meanwhile - 1, meanwhile, meanwhile + 1}) {
            if (seconds < 0) {
                continue;
            }
            EdgeOrchard x = withCopy(life, meanwhile, 0);
            passTo(x, since - 1);
            x.purge(0, false);
            passTo(x, since);
            Look.copyDue(x, 0, 0, "1 1 1 " + since);
            askedAt(x, since + seconds, "soft since " + since + ", life " + life + ", meanwhile " + meanwhile,
                    seconds < meanwhile ? "stale 1 1" : "waiting", 1);
        }
    }

    /** The second in which the soft purge comes is the first in which it is not fresh any more. */
    private static void softFromItsSecondOn() {
        for (int second = 4; second <= 6; second++) {
            EdgeOrchard x = withCopy(100, 50, 0);
            x.cut(0, true);
            x.purge(0, false);
            passTo(x, 4);
            x.cut(0, false);
            askedAt(x, second, "soft since 5", second < 5 ? "fresh 1 1" : "stale 1 1", second < 5 ? 0 : 1);
        }
    }

    /**
     * "if the second is less than its time, its life, and how long it may be stale on errors, together, as stale; otherwise
     * an error": the second is that of the error, not that of the ask.
     */
    private static void staleOnErrors(int life, int onErrors) {
        int firstNotStale = 1 + life + onErrors;
        for (int error = firstNotStale - 1; error <= firstNotStale + 1; error++) {
            if (error < 3) {
                continue;
            }
            EdgeOrchard x = withCopy(life, 0, onErrors);
            // Within its life it would be given fresh, were it not soft.
            passTo(x, error - 2);
            x.purge(0, false);
            x.pass(1);
            Look.copyDue(x, 0, 0, "1 1 1 " + (error - 1));
            x.down(true);
            int ask = x.ask(0, 0, 0, 0, 0, 0);
            Look.answerDue(x, ask, "waiting");
            x.pass(1);
            Check.same("life " + life + ", on errors " + onErrors + ", error in " + error, Look.answer(x, ask),
                    error < firstNotStale ? "stale 1 1" : "failed");
        }
    }

    private static void staleOnErrorsInFigures() {
        for (int error = 300; error <= 302; error++) {
            EdgeOrchard x = withCopy(100, 50, 200);
            passTo(x, error - 1);
            x.down(true);
            int ask = x.ask(0, 0, 0, 0, 0, 0);
            x.pass(1);
            Check.same("told in 1, life 100, on errors 200, error in " + error, Look.answer(x, ask),
                    error < 301 ? "stale 1 1" : "failed");
        }
        // What may be stale on errors for 0 seconds is given on errors within its life: it is soft, with no meanwhile.
        for (int error = 5; error <= 7; error++) {
            EdgeOrchard x = withCopy(5, 0, 0);
            x.purge(0, false);
            passTo(x, error - 1);
            x.down(true);
            int ask = x.ask(0, 0, 0, 0, 0, 0);
            x.pass(1);
            Check.same("told in 1, life 5, on errors 0, error in " + error, Look.answer(x, ask),
                    error < 6 ? "stale 1 1" : "failed");
        }
    }

    /** Rule 3 gives it by the same measure, in the second in which this one comes. */
    private static void staleWithAnErrorInMind() {
        for (int second = 9; second <= 12; second++) {
            EdgeOrchard x = withCopy(4, 0, 6);
            passTo(x, second - 1);
            x.down(true);
            int first = x.ask(0, 0, 0, 0, 1, 1);
            x.pass(1);
            Look.answerDue(x, first, "failed");
            askedAt(x, second, "an error in mind, up to 10", second < 11 ? "stale 1 1" : "failed", 0);
        }
    }

    /** "If the place has got an error for this page in this second or the one ahead of it". */
    private static void errorsInMind() {
        for (int seconds = 0; seconds <= 3; seconds++) {
            EdgeOrchard x = withCopy(0, 0, 0);
            passTo(x, 10);
            x.down(true);
            x.ask(0, 0, 0, 0, 1, 1);
            // The second before the error there is none in mind.
            askedAt(x, 10, "an error that comes in 11", "waiting", 1);
            x.pass(1);
            x.down(false);
            askedAt(x, 11 + seconds, "an error in 11", seconds < 2 ? "failed" : "waiting", seconds < 2 ? 0 : 1);
        }
    }

    /** An error in the second 1 is in mind in 2; and no error is in mind in the seconds 0 and 1 of a new object. */
    private static void errorsInTheFirstSeconds() {
        for (int second = 0; second <= 2; second++) {
            EdgeOrchard x = new EdgeOrchard();
            x.page(1, 0, 5, 0, 0, 0);
            x.place(-1, 1, 5, false);
            askedAt(x, second, "no error yet", "waiting", 1);
        }
        EdgeOrchard x = new EdgeOrchard();
        x.page(1, 0, 5, 0, 0, 0);
        x.place(-1, 1, 5, false);
        x.down(true);
        x.ask(0, 0, 0, 0, 0, 0);
        x.pass(1);
        x.down(false);
        askedAt(x, 1, "an error in 1", "failed", 0);
        askedAt(x, 2, "an error in 1", "failed", 0);
        askedAt(x, 3, "an error in 1", "waiting", 1);
    }

    /** Errors in two seconds, the second one while the first is in mind: it is in mind for itself, one second longer. */
    private static void errorsOneAfterTheOther() {
        EdgeOrchard x = new EdgeOrchard();
        x.page(2, 0, 0, 0, 0, 0);
        x.place(-1, 2, 40, false);
        x.down(true);
        x.ask(0, 0, 0, 0, 0, 0);
        x.pass(1);
        x.ask(0, 0, 0, 0, 1, 1);
        askedAt(x, 2, "an error in 2 and then in 3", "failed", 0);
        askedAt(x, 3, "an error in 2 and in 3", "failed", 0);
        askedAt(x, 4, "an error in 2 and in 3", "failed", 0);
        askedAt(x, 5, "an error in 2 and in 3", "waiting", 1);
    }

    public static void main(String[] args) {
        for (int life : new int[] {0, 1, 2, 99, 100}) {
            for (int meanwhile : new int[] {0, 1, 2, 49, 50}) {
                freshAndStale(life, meanwhile);
                soft(life, meanwhile, 3);
                soft(life, meanwhile, 160);
            }
            for (int onErrors : new int[] {0, 1, 5, 199, 200}) {
                staleOnErrors(life, onErrors);
            }
        }
        theLongestOfAll();
        softFromItsSecondOn();
        staleOnErrorsInFigures();
        staleWithAnErrorInMind();
        errorsInMind();
        errorsInTheFirstSeconds();
        errorsOneAfterTheOther();
        Check.end("LivesTest");
    }
}
