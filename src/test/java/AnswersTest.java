/** The edges of "Answers": what is kept, for whom there is room, how many wait, and what is served and fetched. */
public final class AnswersTest {
    private static void passTo(EdgeOrchard x, int second) {
        while (x.second() < second) {
            x.pass(1);
        }
    }

    /** "the time is above the latest hard purge at the place": an answer told in 9 comes behind a purge of 8, 9 or 10. */
    private static void keptAboveTheHardPurge(boolean isHard) {
        for (int told = 8; told <= 10; told++) {
            EdgeOrchard x = new EdgeOrchard();
            x.page(1, 0, 100, 50, 0, 0);
            x.place(-1, 9, 40, false);
            x.place(0, 2, 40, false);
            x.ask(0, 0, 0, 0, 0, 0);
            passTo(x, told);
            x.purge(0, isHard);
            x.pass(1);
            x.ask(1, 0, 0, 0, 0, 0);
            x.pass(2);
            Look.answerDue(x, 1, "fetched 1 9");
            Look.copyDue(x, 1, 0, isHard && told >= 9 ? "none" : "1 9 1 -1");
            Check.due("fetched(1), kept or not", x.fetched(1), 1);
            Check.due("held(1)", x.held(1), isHard && told >= 9 ? 0 : 1);
        }
    }

    /** "at least two asks or fetches from below for the page have come to it": none but the nth is kept. */
    private static void askedSoOften(boolean isTwice, boolean isFromBelow) {
        EdgeOrchard x = new EdgeOrchard();
        x.page(1, 0, 0, 0, 0, 0);
        x.page(1, 0, 0, 0, 0, 0);
        x.place(-1, 1, 40, isTwice);
        x.place(0, 1, 40, false);
        // That another page is asked for does not count.
        x.ask(0, 1, 0, 0, 0, 0);
        x.ask(0, 1, 0, 0, 0, 0);
        for (int comings = 1; comings <= 3; comings++) {
            x.ask(isFromBelow ? 1 : 0, 0, 0, 0, 0, 0);
            x.pass(2);
            String kept = isTwice && comings < 2 ? "none" : "1 " + (2 * comings - (isFromBelow ? 0 : 1)) + " 1 -1";
            Look.copyDue(x, 0, 0, kept);
        }
    }

    /** One that failed has come as well. */
    private static void theOneThatFailedCounts() {
        EdgeOrchard x = new EdgeOrchard();
        x.page(1, 0, 9, 0, 0, 0);
        x.place(-1, 1, 40, true);
        x.down(true);
        x.ask(0, 0, 0, 0, 0, 0);
        x.pass(1);
        Look.answerDue(x, 0, "failed");
        x.down(false);
        x.pass(2);
        x.ask(0, 0, 0, 0, 0, 0);
        x.pass(1);
        Look.copyDue(x, 0, 0, "1 4 1 -1");
    }

    /** "As long as copies have more pieces than there is room": of one copy alone, just as many, and one more. */
    private static void oneCopyAlone(int room, int pieces) {
        EdgeOrchard x = new EdgeOrchard();
        x.page(8, 0, 50, 0, 0, 0);
        x.place(-1, 1, room, false);
        x.ask(0, 0, 0, 0, 0, pieces - 1);
        x.pass(1);
        Look.answerDue(x, 0, "fetched 1 1");
        Check.due("held(0) of " + pieces + " in a room of " + room, x.held(0), pieces <= room ? pieces : 0);
        Check.due("copies(0) of " + pieces + " in a room of " + room, x.copies(0), pieces <= room ? 1 : 0);
        Check.due("fetched(0)", x.fetched(0), pieces);
        Check.due("varies(0, 0)", x.varies(0, 0), 0);
    }

    /** The largest room: of forty copies of one piece none goes, of forty-one the first. */
    private static void fortyCopies() {
        EdgeOrchard x = new EdgeOrchard();
        for (int page = 0; page < 7; page++) {
            x.page(1, 3, 100, 0, 0, 0);
        }
        x.place(-1, 1, 40, false);
        for (int k = 0; k < 40; k++) {
            x.ask(0, k / 6, k % 6 / 2, k % 2, 0, 0);
        }
        x.pass(1);
        Check.due("copies(0) of forty", x.copies(0), 40);
        Check.due("held(0) of forty", x.held(0), 40);
        x.ask(0, 6, 2, 0, 0, 0);
        x.pass(1);
        Check.due("copies(0) of forty-one", x.copies(0), 40);
        Check.due("held(0) of forty-one", x.held(0), 40);
        Look.copyDue(x, 0, 0, 0, 0, "none");
        Look.copyDue(x, 0, 0, 0, 1, "1 1 1 -1");
        Look.copyDue(x, 0, 6, 2, 0, "1 2 1 -1");
    }

    /** Five copies of eight pieces fill it too; one piece more, and one of the five goes as a whole. */
    private static void fortyPieces() {
        EdgeOrchard x = new EdgeOrchard();
        for (int page = 0; page < 6; page++) {
            x.page(8, 0, 100, 0, 0, 0);
        }
        x.place(-1, 1, 40, false);
        for (int page = 0; page < 5; page++) {
            x.ask(0, page, 0, 0, 0, 7);
        }
        x.pass(1);
        Check.due("held(0) of five", x.held(0), 40);
        x.ask(0, 5, 0, 0, 3, 3);
        x.pass(1);
        Check.due("held(0) of five and a piece", x.held(0), 33);
        Check.due("copies(0) of five and a piece", x.copies(0), 5);
        Look.copyDue(x, 0, 0, "none");
        x.ask(0, 5, 0, 0, 0, 7);
        x.pass(1);
        Check.due("held(0), full again", x.held(0), 40);
        Look.copyDue(x, 0, 1, "1 1 255 -1");
    }

    /** A piece that comes to a copy already there, in a room that is full: another one goes, if there is one. */
    private static void oneMorePiece(boolean isAnotherThere) {
        EdgeOrchard x = new EdgeOrchard();
        x.page(3, 0, 50, 0, 0, 0);
        x.page(1, 0, 50, 0, 0, 0);
        x.place(-1, 1, isAnotherThere ? 3 : 2, false);
        x.ask(0, 0, 0, 0, 0, 1);
        x.pass(1);
        if (isAnotherThere) {
            x.ask(0, 1, 0, 0, 0, 0);
            x.pass(1);
        }
        Check.due("copies(0) in a full room", x.copies(0), isAnotherThere ? 2 : 1);
        x.ask(0, 0, 0, 0, 2, 2);
        x.pass(1);
        Look.copyDue(x, 0, 0, isAnotherThere ? "1 3 7 -1" : "none");
        Look.copyDue(x, 0, 1, "none");
        Check.due("held(0) behind that", x.held(0), isAnotherThere ? 3 : 0);
    }

    /** None to four wait for an answer: each gets it, once. */
    private static void allThatWait(int waiting) {
        EdgeOrchard x = new EdgeOrchard();
        x.page(2, 0, 0, 50, 0, 0);
        x.place(-1, 2, 40, false);
        x.ask(0, 0, 0, 0, 0, 0);
        x.pass(2);
        if (waiting == 0) {
            Look.answerDue(x, x.ask(0, 0, 0, 0, 0, 0), "stale 1 2");
        }
        for (int k = 0; k < waiting; k++) {
            Look.answerDue(x, x.ask(0, 0, 0, 0, 0, 1), "waiting");
        }
        Check.due("fetches() when " + waiting + " wait", x.fetches(), 2);
        int served = x.served(0);
        x.update(0);
        x.pass(2);
        for (int k = 1; k <= waiting; k++) {
            Look.answerDue(x, k, "fetched 2 4");
        }
        Check.due("served(0) to " + waiting, x.served(0) - served, 2 * waiting);
        Check.due("fetched(0)", x.fetched(0), waiting == 0 ? 2 : 3);
        Look.copyDue(x, 0, 0, waiting == 0 ? "2 4 1 -1" : "2 4 3 -1");
    }

    /** None to four wait for what turns out to be private: one gets it, the others wait on, each for a fetch alone. */
    private static void allThatWaitForWhatIsPrivate(int waiting) {
        EdgeOrchard x = new EdgeOrchard();
        x.page(2, 0, 0, 50, 0, 0);
        x.place(-1, 2, 40, false);
        x.ask(0, 0, 0, 0, 0, 0);
        x.pass(2);
        if (waiting == 0) {
            x.ask(0, 0, 0, 0, 0, 0);
        }
        for (int k = 0; k < waiting; k++) {
            x.ask(0, 0, 0, 0, 0, 1);
        }
        int served = x.served(0);
        x.rules(0, EdgeOrchard.PRIVATE, 0, 50, 0);
        x.pass(2);
        for (int k = 1; k <= waiting; k++) {
            Look.answerDue(x, k, k == 1 ? "fetched 1 4" : "waiting");
        }
        Check.due("varies(0, 0)", x.varies(0, 0), 4);
        Check.due("copies(0) of what is private", x.copies(0), 0);
        Check.due("served(0), private for " + waiting, x.served(0) - served, waiting == 0 ? 0 : 2);
        Check.due("fetches(), private for " + waiting, x.fetches(), waiting < 2 ? 2 : 1 + waiting);
        Check.due("onWay(0), private for " + waiting, x.onWay(0), waiting < 2 ? 0 : waiting - 1);
        x.pass(2);
        for (int k = 2; k <= waiting; k++) {
            Look.answerDue(x, k, "fetched 1 6");
        }
        Check.due("onWay(0) at last", x.onWay(0), 0);
    }

    /** None to four wait for an error; it is in mind also if nobody waited. */
    private static void allThatWaitForAnError(int waiting) {
        EdgeOrchard x = new EdgeOrchard();
        x.page(3, 0, 0, 50, 0, 0);
        x.place(-1, 2, 40, false);
        x.ask(0, 0, 0, 0, 0, 0);
        x.pass(2);
        if (waiting == 0) {
            x.ask(0, 0, 0, 0, 0, 0);
        }
        for (int k = 0; k < waiting; k++) {
            x.ask(0, 0, 0, 0, 0, 1);
        }
        x.down(true);
        x.pass(2);
        for (int k = 1; k <= waiting; k++) {
            Look.answerDue(x, k, "failed");
        }
        Check.due("onWay(0) behind an error", x.onWay(0), 0);
        Look.answerDue(x, x.ask(0, 0, 0, 0, 2, 2), "failed");
        x.pass(1);
        Look.answerDue(x, x.ask(0, 0, 0, 0, 2, 2), "failed");
        x.pass(1);
        Look.answerDue(x, x.ask(0, 0, 0, 0, 2, 2), "waiting");
        Look.copyDue(x, 0, 0, "1 2 1 -1");
    }

    /** "the others come to the place anew, one after the other": in the order in which they came, as numbers tell. */
    private static void anewInTheirOrder() {
        EdgeOrchard x = new EdgeOrchard();
        x.page(3, EdgeOrchard.PRIVATE, 0, 0, 0, 0);
        x.place(-1, 1, 40, false);
        x.ask(0, 0, 0, 0, 0, 2);
        x.ask(0, 0, 0, 0, 1, 2);
        x.ask(0, 0, 0, 0, 2, 2);
        x.pass(1);
        Check.due("served(0) of the first", x.served(0), 3);
        Check.due("fetched(0) of the first", x.fetched(0), 3);
        Check.due("onWay(0)", x.onWay(0), 2);
        x.pass(1);
        Check.due("served(0) of all", x.served(0), 6);
        Check.due("fetched(0) of all, each its own pieces", x.fetched(0), 6);
    }

    /**
     * "but nothing if it has a copy of the same version there already, behind learning, with all these pieces": of a copy
     * of pieces 0 to 2, told in 1; life is 0, so that each ask is fetched for.
     */
    private static void fetchedOrNothing(int first, int last, boolean isUpdated, int varies, int language) {
        EdgeOrchard x = new EdgeOrchard();
        x.page(4, EdgeOrchard.BY_LANGUAGE, 0, 0, 0, 0);
        x.place(-1, 1, 40, false);
        x.ask(0, 0, 1, 0, 0, 2);
        x.pass(1);
        Check.due("fetched(0) of the copy", x.fetched(0), 3);
        if (isUpdated) {
            x.update(0);
        }
        x.rules(0, varies, 0, 0, 0);
        x.ask(0, 0, language, 0, first, last);
        x.pass(1);
        boolean isThere = last <= 2 && !isUpdated && varies == EdgeOrchard.BY_LANGUAGE && language == 1;
        Check.due("fetched(0) of " + first + " to " + last + ", updated " + isUpdated + ", varies " + varies + ", language "
                + language, x.fetched(0) - 3, isThere ? 0 : last - first + 1);
        Check.due("served(0) in any case", x.served(0), 3 + last - first + 1);
    }

    public static void main(String[] args) {
        keptAboveTheHardPurge(true);
        keptAboveTheHardPurge(false);
        for (boolean isTwice : new boolean[] {false, true}) {
            askedSoOften(isTwice, false);
            askedSoOften(isTwice, true);
        }
        theOneThatFailedCounts();
        for (int pieces = 1; pieces <= 8; pieces++) {
            for (int room = 1; room <= 9; room++) {
                oneCopyAlone(room, pieces);
            }
        }
        fortyCopies();
        fortyPieces();
        oneMorePiece(true);
        oneMorePiece(false);
        for (int waiting = 0; waiting <= 4; waiting++) {
            allThatWait(waiting);
            allThatWaitForWhatIsPrivate(waiting);
            allThatWaitForAnError(waiting);
        }
        anewInTheirOrder();
        for (int last = 1; last <= 3; last++) {
            fetchedOrNothing(1, last, false, EdgeOrchard.BY_LANGUAGE, 1);
            fetchedOrNothing(0, last, true, EdgeOrchard.BY_LANGUAGE, 1);
            fetchedOrNothing(1, last, false, EdgeOrchard.BY_LANGUAGE, 2);
            fetchedOrNothing(1, last, false, 0, 1);
            fetchedOrNothing(1, last, false, EdgeOrchard.BY_LANGUAGE | EdgeOrchard.BY_KIND, 1);
            fetchedOrNothing(1, last, false, EdgeOrchard.BY_LANGUAGE | EdgeOrchard.PRIVATE, 1);
        }
        Check.end("AnswersTest");
    }
}
