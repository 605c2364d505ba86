/** The edges of "What is asked": delays, what is cut off or down when it comes, and each measure of the rules 1 to 5. */
public final class ComingsTest {
    private static void passTo(EdgeOrchard x, int second) {
        while (x.second() < second) {
            x.pass(1);
        }
    }

    /** "It comes to the parent, or to the origin, as many seconds later as the delay of the place tells." */
    private static void delays(int delay) {
        EdgeOrchard x = new EdgeOrchard();
        x.page(1, 0, 50, 0, 0, 0);
        x.place(-1, delay, 40, false);
        x.pass(5);
        x.ask(0, 0, 0, 0, 0, 0);
        passTo(x, 5 + delay - 1);
        Check.due("origin() one second ahead of the delay " + delay, x.origin(), 0);
        Check.due("onWay(0) one second ahead", x.onWay(0), 1);
        Look.answerDue(x, 0, "waiting");
        x.pass(1);
        Check.due("origin() behind the delay " + delay, x.origin(), 1);
        Check.due("onWay(0) behind the delay", x.onWay(0), 0);
        Look.answerDue(x, 0, "fetched 1 " + (5 + delay));
        x.place(0, delay, 40, false);
        int ask = x.ask(1, 0, 0, 0, 0, 0);
        passTo(x, 5 + 2 * delay - 1);
        Check.due("served(0) one second ahead of the delay " + delay, x.served(0), 1);
        Look.answerDue(x, ask, "waiting");
        x.pass(1);
        Check.due("served(0) behind the delay " + delay, x.served(0), 2);
        Look.answerDue(x, ask, "fetched 1 " + (5 + delay));
    }

    /** "those that are made meanwhile come later": in the next second, by the shortest delay, never in the same. */
    private static void madeMeanwhile() {
        EdgeOrchard x = new EdgeOrchard();
        x.page(1, 0, 50, 0, 0, 0);
        for (int k = 0; k < 6; k++) {
            x.place(k - 1, 1, 40, false);
        }
        x.ask(5, 0, 0, 0, 0, 0);
        for (int second = 0; second < 6; second++) {
            Check.due("fetches() in second " + second, x.fetches(), second + 1);
            Look.answerDue(x, 0, "waiting");
            x.pass(1);
        }
        Check.due("fetches() at last", x.fetches(), 6);
        Look.answerDue(x, 0, "fetched 1 6");
    }

    /** "If the place that made it is cut off when it comes": only that second counts, and only that place. */
    private static void cutOffAroundTheSecond(int from, int to, boolean isBelow) {
        EdgeOrchard x = new EdgeOrchard();
        x.page(1, 0, 50, 0, 0, 0);
        x.place(-1, 1, 40, true);
        x.place(isBelow ? 0 : -1, 4, 40, false);
        x.ask(1, 0, 0, 0, 0, 0);
        for (int second = 1; second <= 6; second++) {
            x.cut(1, second >= from && second <= to);
            x.pass(1);
        }
        boolean isCut = from <= 4 && to >= 4;
        Check.same("cut off in the seconds " + from + " to " + to, Look.answer(x, 0),
                isCut ? "failed" : isBelow ? "fetched 1 5" : "fetched 1 4");
        Check.due("origin()", x.origin(), isCut ? 0 : 1);
        // What did not come to the place above does not count there for being asked for twice.
        if (isBelow) {
            x.ask(0, 0, 0, 0, 0, 0);
            x.pass(1);
            Check.due("copies(0)", x.copies(0), isCut ? 0 : 1);
        }
    }

    /** "or the origin is down when it comes there". */
    private static void downAroundTheSecond(int from, int to) {
        EdgeOrchard x = new EdgeOrchard();
        x.page(1, 0, 50, 0, 0, 0);
        x.place(-1, 4, 40, false);
        x.place(0, 1, 40, false);
        x.ask(0, 0, 0, 0, 0, 0);
        for (int second = 1; second <= 6; second++) {
            x.down(second >= from && second <= to);
            x.pass(1);
        }
        boolean isDown = from <= 4 && to >= 4;
        Check.same("down in the seconds " + from + " to " + to, Look.answer(x, 0), isDown ? "failed" : "fetched 1 4");
        Check.due("origin()", x.origin(), isDown ? 0 : 1);
        if (!isDown) {
            // A place below asks a place, not the origin: that this is down does not matter.
            x.down(true);
            x.ask(1, 0, 0, 0, 0, 0);
            x.pass(1);
            Look.answerDue(x, 1, "fetched 1 4");
        }
    }

    /** "Each needs an answer whose time is above some second; a fetch above what it was made for": a copy told in 9. */
    private static void timesAboveWhatAFetchIsFor() {
        for (int told = 8; told <= 10; told++) {
            EdgeOrchard x = new EdgeOrchard();
            x.page(1, 0, 100, 0, 0, 0);
            x.place(-1, 9, 40, false);
            x.place(0, 1, 40, false);
            x.ask(0, 0, 0, 0, 0, 0);
            passTo(x, told);
            x.purge(0, true);
            x.pass(1);
            Look.copyDue(x, 0, 0, "1 9 1 -1");
            x.ask(1, 0, 0, 0, 0, 0);
            x.pass(1);
            Check.same("a copy told in 9, purged hard in " + told, Look.answer(x, 1), told < 9 ? "fetched 1 9" : "waiting");
            Check.due("onWay(0)", x.onWay(0), told < 9 ? 0 : 1);
            Look.copyDue(x, 0, 0, "1 9 1 -1");
        }
    }

    /** The same when the copy may be stale meanwhile, and when it may be given on errors. */
    private static void timesAboveForWhatIsStale() {
        for (int told = 8; told <= 10; told++) {
            for (int onErrors = 0; onErrors <= 50; onErrors += 50) {
                EdgeOrchard x = new EdgeOrchard();
                x.page(1, 0, 0, 50 - onErrors, onErrors, 0);
                x.place(-1, 9, 40, false);
                x.place(0, 1, 40, false);
                x.ask(0, 0, 0, 0, 0, 0);
                passTo(x, told);
                x.purge(0, true);
                x.pass(1);
                int ask = x.ask(1, 0, 0, 0, 0, 0);
                x.down(true);
                x.pass(1);
                Check.same("for " + told, Look.answer(x, ask), told < 9 && onErrors == 0 ? "fetched 1 9" : "waiting");
                // Cut off, place 0 has an error nine seconds later, and its copy still, for the purge has not come.
                x.cut(0, true);
                x.pass(9);
                Look.copyDue(x, 0, 0, "1 9 1 -1");
                Check.same("for " + told + ", at last", Look.answer(x, ask), told < 9 ? "fetched 1 9" : "failed");
            }
        }
    }

    /**
     * "and a second that is no less": the fetch of place 0 is for 'above', that from below needs 'need'; both are -1, the
     * second of the first purge, or that of the second one, told one second later.
     */
    private static void secondsNoLess(int first, int above, int need) {
        EdgeOrchard x = new EdgeOrchard();
        x.page(1, 0, 100, 0, 0, 0);
        x.place(-1, 9, 40, false);
        x.place(0, 8, 40, false);
        int askedAbove = above == -1 ? first + 8 : above + 9;
        int askedBelow = need == -1 ? first + 7 : need + 8;
        while (x.second() < first + 11) {
            if (x.second() == first || x.second() == first + 1) {
                x.purge(0, true);
            }
            if (x.second() == askedAbove) {
                x.ask(0, 0, 0, 0, 0, 0);
            }
            if (x.second() == askedBelow) {
                x.ask(1, 0, 0, 0, 0, 0);
            }
            x.pass(1);
        }
        Check.due("fetches() ahead", x.fetches(), 2);
        passTo(x, askedBelow + 8);
        Check.due("fetches(): one above " + above + " for what needs " + need, x.fetches(), above >= need ? 2 : 3);
    }

    /**
     * "that of who it is for, or of the latest hard purge at the place, if that is more": what comes from below knows of no
     * purge yet, but the fetch for it takes on an ask at a place that does; one purge later it does not.
     */
    private static void ofTheHardPurgeAtThePlace(int told) {
        EdgeOrchard x = new EdgeOrchard();
        x.page(1, 0, 100, 0, 0, 0);
        x.place(-1, 3, 40, false);
        x.place(0, 9, 40, false);
        x.ask(1, 0, 0, 0, 0, 0);
        passTo(x, told);
        x.purge(0, true);
        passTo(x, 9);
        Check.due("fetches() when one has come from below", x.fetches(), 2);
        x.pass(1);
        x.ask(0, 0, 0, 0, 0, 0);
        Check.due("fetches(), purged in " + told + ", which comes in " + (told + 3), x.fetches(), told + 3 <= 9 ? 2 : 3);
    }

    /** "for nobody: of the latest hard purge at the place, likewise": so it could take on the next that is given it stale. */
    private static void forNobodyOfTheHardPurge(boolean isHard) {
        EdgeOrchard x = new EdgeOrchard();
        x.page(1, 0, 0, 50, 0, 0);
        x.place(-1, 3, 40, false);
        x.purge(0, isHard);
        x.pass(3);
        x.ask(0, 0, 0, 0, 0, 0);
        x.pass(3);
        for (int k = 1; k <= 3; k++) {
            Look.answerDue(x, x.ask(0, 0, 0, 0, 0, 0), "stale 1 6");
            Check.due("fetches() for nobody", x.fetches(), 2);
        }
        // A purge told in the second of the copy comes in 9 and takes it, ahead of the fetch, which brings another.
        x.purge(0, true);
        x.pass(2);
        Look.answerDue(x, x.ask(0, 0, 0, 0, 0, 0), "stale 1 6");
        Check.due("fetches() ahead of the purge", x.fetches(), 2);
        x.pass(1);
        Look.copyDue(x, 0, 0, "1 9 1 -1");
    }

    /** "-1 without one": a hard purge told in second 0 is above that, a soft one is none. */
    private static void purgedInSecondZero(boolean isHard) {
        EdgeOrchard x = new EdgeOrchard();
        x.page(1, 0, 100, 0, 0, 0);
        x.place(-1, 2, 40, false);
        x.pass(1);
        EdgeOrchard y = new EdgeOrchard();
        y.page(1, 0, 100, 0, 0, 0);
        y.place(-1, 2, 40, false);
        y.purge(0, isHard);
        y.pass(1);
        for (EdgeOrchard one : new EdgeOrchard[] {x, y}) {
            one.ask(0, 0, 0, 0, 0, 0);
            one.pass(1);
            one.ask(0, 0, 0, 0, 0, 0);
        }
        Check.due("fetches() without a purge", x.fetches(), 1);
        Check.due("fetches() with a purge of second 0", y.fetches(), isHard ? 2 : 1);
    }

    /** "for all these pieces": of a page of 8, a fetch for 2 to 5. */
    private static void piecesOfFetches() {
        for (int first = 0; first < 8; first++) {
            for (int last = first; last < 8; last++) {
                EdgeOrchard x = new EdgeOrchard();
                x.page(8, 0, 50, 0, 0, 0);
                x.place(-1, 1, 40, false);
                x.ask(0, 0, 0, 0, 2, 5);
                x.ask(0, 0, 0, 0, first, last);
                Check.due("fetches() for " + first + " to " + last, x.fetches(), first >= 2 && last <= 5 ? 1 : 2);
            }
        }
    }

    /** "with all pieces that are asked for": of a page of 8, a copy of 2 to 5. */
    private static void piecesOfCopies() {
        for (int first = 0; first < 8; first++) {
            for (int last = first; last < 8; last++) {
                EdgeOrchard x = new EdgeOrchard();
                x.page(8, 0, 1, 1, 100, 0);
                x.place(-1, 1, 40, false);
                x.ask(0, 0, 0, 0, 2, 5);
                x.pass(1);
                boolean isThere = first >= 2 && last <= 5;
                String of = "pieces " + first + " to " + last + " of 2 to 5";
                Check.same(of, Look.answer(x, x.ask(0, 0, 0, 0, first, last)), isThere ? "fresh 1 1" : "waiting");
                Check.due("served(0)", x.served(0), isThere ? 4 + last - first + 1 : 4);
                x.down(true);
                x.pass(1);
                int fetches = x.fetches();
                Check.same(of + ", stale, or on errors", Look.answer(x, 1), isThere ? "fresh 1 1" : "failed");
                Check.same(of + ", stale, or with an error in mind", Look.answer(x, x.ask(0, 0, 0, 0, first, last)),
                        isThere ? "stale 1 1" : "failed");
                Check.due("fetches()", x.fetches() - fetches, isThere ? 1 : 0);
            }
        }
    }

    /** "1 to 8 pieces, numbered from 0": for each count, all of them at once, and the one behind the last. */
    private static void piecesOfPages() {
        for (int pieces = 1; pieces <= 8; pieces++) {
            EdgeOrchard x = new EdgeOrchard();
            x.page(pieces, 0, 50, 0, 0, 0);
            x.place(-1, 1, 40, false);
            int beyond = pieces;
            Check.throwsDue("ask for piece " + beyond, IndexOutOfBoundsException.class,
                    () -> x.ask(0, 0, 0, 0, beyond, beyond));
            x.ask(0, 0, 0, 0, pieces - 1, pieces - 1);
            x.pass(1);
            Look.copyDue(x, 0, 0, "1 1 " + (1 << pieces - 1) + " -1");
            x.ask(0, 0, 0, 0, 0, pieces - 1);
            x.pass(1);
            int all = new int[] {0, 1, 3, 7, 15, 31, 63, 127, 255}[pieces];
            Look.copyDue(x, 0, 0, "1 " + (pieces == 1 ? 1 : 2) + " " + all + " -1");
            Check.due("held(0)", x.held(0), pieces);
        }
    }

    /** "if less than 4 wait for that": for each count of those that wait, asks and fetches from below. */
    private static void howManyWait() {
        for (int waiting = 1; waiting <= 5; waiting++) {
            EdgeOrchard x = new EdgeOrchard();
            x.page(1, 0, 50, 0, 0, 0);
            x.place(-1, 9, 40, false);
            x.place(0, 1, 40, false);
            for (int k = 0; k < waiting; k++) {
                x.ask(0, 0, 0, 0, 0, 0);
            }
            Check.due("fetches() of " + waiting, x.fetches(), waiting <= 4 ? 1 : 2);
            x.ask(1, 0, 0, 0, 0, 0);
            x.pass(1);
            Check.due("onWay(0) when one from below has come to " + waiting, x.onWay(0), waiting < 4 ? 1 : waiting - 2);
            x.ask(0, 0, 0, 0, 0, 0);
            Check.due("onWay(0) with one more", x.onWay(0), waiting < 3 ? 1 : waiting - 1);
            x.pass(9);
            for (int k = 0; k <= waiting + 1; k++) {
                Check.due("ask " + k + " is answered", x.answer(k, 0), 1);
            }
        }
    }

    /** A fetch for nobody has none that wait: it takes four on. */
    private static void noneWaitForOneForNobody() {
        EdgeOrchard x = new EdgeOrchard();
        x.page(1, 0, 1, 1, 0, 0);
        x.place(-1, 3, 40, false);
        x.ask(0, 0, 0, 0, 0, 0);
        x.pass(4);
        x.ask(0, 0, 0, 0, 0, 0);
        Look.answerDue(x, 1, "stale 1 3");
        x.pass(1);
        for (int k = 0; k < 4; k++) {
            x.ask(0, 0, 0, 0, 0, 0);
            Check.due("fetches() of " + (k + 1), x.fetches(), 2);
        }
        x.ask(0, 0, 0, 0, 0, 0);
        Check.due("fetches() of five", x.fetches(), 3);
        x.pass(2);
        Look.answerDue(x, 5, "fetched 1 7");
        Look.answerDue(x, 6, "waiting");
    }

    /** "unless there is one that could take this on, however many wait for it": one to five for a further piece too. */
    private static void forNobodyHoweverManyWait() {
        for (int waiting = 0; waiting <= 5; waiting++) {
            EdgeOrchard x = new EdgeOrchard();
            x.page(2, 0, 0, 50, 0, 0);
            x.place(-1, 3, 40, false);
            x.ask(0, 0, 0, 0, 0, 0);
            x.pass(3);
            for (int k = 0; k < waiting; k++) {
                Look.answerDue(x, x.ask(0, 0, 0, 0, 0, 1), "waiting");
            }
            int fetches = x.fetches();
            Look.answerDue(x, x.ask(0, 0, 0, 0, 0, 0), "stale 1 3");
            Check.due("fetches() for nobody when " + waiting + " wait", x.fetches() - fetches, waiting == 0 ? 1 : 0);
            Look.answerDue(x, x.ask(0, 0, 0, 0, 0, 0), "stale 1 3");
            Check.due("fetches() for nobody again", x.fetches() - fetches, waiting == 0 ? 1 : 0);
        }
    }

    /** One for other pieces, or for one alone, could not take it on. */
    private static void forNobodyInSpiteOfOthers() {
        EdgeOrchard x = new EdgeOrchard();
        x.page(3, 0, 0, 50, 0, 0);
        x.place(-1, 3, 40, false);
        x.ask(0, 0, 0, 0, 0, 1);
        x.pass(3);
        x.ask(0, 0, 0, 0, 1, 2);
        Look.answerDue(x, x.ask(0, 0, 0, 0, 0, 1), "stale 1 3");
        Check.due("fetches() in spite of one for 1 to 2", x.fetches(), 3);
        Look.answerDue(x, x.ask(0, 0, 0, 0, 1, 1), "stale 1 3");
        Check.due("fetches() for what both could take on", x.fetches(), 3);
        EdgeOrchard y = new EdgeOrchard();
        y.page(1, EdgeOrchard.PRIVATE, 0, 50, 0, 0);
        y.place(-1, 3, 40, false);
        y.ask(0, 0, 0, 0, 0, 0);
        y.pass(3);
        y.ask(0, 0, 0, 0, 0, 0);
        y.rules(0, 0, 0, 50, 0);
        y.pass(2);
        y.ask(0, 0, 0, 0, 0, 0);
        y.pass(1);
        Look.answerDue(y, y.ask(0, 0, 0, 0, 0, 0), "stale 1 6");
        Check.due("onWay(0): one for one alone, one for nobody", y.onWay(0), 2);
    }

    /** "the lowest such one takes it on": the one that comes first, here. */
    private static void theLowest() {
        EdgeOrchard x = new EdgeOrchard();
        x.page(3, 0, 50, 0, 0, 0);
        x.place(-1, 3, 40, false);
        x.ask(0, 0, 0, 0, 0, 1);
        x.pass(1);
        x.ask(0, 0, 0, 0, 1, 2);
        x.ask(0, 0, 0, 0, 1, 1);
        x.ask(0, 0, 0, 0, 2, 2);
        Check.due("fetches()", x.fetches(), 2);
        x.pass(2);
        Look.answerDue(x, 2, "fetched 1 3");
        Look.answerDue(x, 3, "waiting");
        x.pass(1);
        Look.answerDue(x, 3, "fetched 1 4");
    }

    /** "that has no answer and no error yet": in the second in which it has it, it takes nobody on any more. */
    private static void noneThatIsOver() {
        EdgeOrchard x = new EdgeOrchard();
        x.page(1, 0, 0, 0, 0, 0);
        x.page(1, 0, 0, 0, 0, 0);
        x.place(-1, 2, 40, false);
        x.ask(0, 0, 0, 0, 0, 0);
        x.pass(1);
        x.ask(0, 0, 0, 0, 0, 0);
        Check.due("fetches() a second ahead of the answer", x.fetches(), 1);
        x.pass(1);
        x.ask(0, 0, 0, 0, 0, 0);
        Check.due("fetches() in the second of the answer", x.fetches(), 2);
        Look.answerDue(x, 1, "fetched 1 2");
        Look.answerDue(x, 2, "waiting");
    }

    /** Languages 0 to 2, kinds 0 and 1: how many fetches take on all six, while nothing is known and by what is known. */
    private static void keysOfFetches(int varies, int want) {
        EdgeOrchard x = new EdgeOrchard();
        x.page(2, varies, 50, 0, 0, 0);
        x.place(-1, 1, 40, false);
        for (int round = 0; round < 2; round++) {
            int fetches = x.fetches();
            for (int key = 0; key < 6; key++) {
                x.ask(0, 0, key / 2, key % 2, round, round);
                x.ask(0, 0, key / 2, key % 2, round, round);
            }
            // Of the twelve that ask for what does not vary, four wait for one fetch and eight have one each; if it
            // varies by kind, of each six four and two.
            Check.due("fetches() for all keys, varies " + varies + ", round " + round, x.fetches() - fetches,
                    round == 0 ? 6 : want);
            x.pass(1);
            Check.due("copies(0)", x.copies(0), new int[] {1, 3, 2, 6}[varies]);
        }
    }

    public static void main(String[] args) {
        for (int delay = 1; delay <= 9; delay++) {
            delays(delay);
        }
        madeMeanwhile();
        for (int from = 1; from <= 6; from++) {
            for (int to = from - 1; to <= 6; to++) {
                cutOffAroundTheSecond(from, to, false);
                cutOffAroundTheSecond(from, to, true);
                downAroundTheSecond(from, to);
            }
        }
        timesAboveWhatAFetchIsFor();
        timesAboveForWhatIsStale();
        for (int first : new int[] {0, 1, 7}) {
            for (int above : new int[] {-1, first, first + 1}) {
                for (int need : new int[] {-1, first, first + 1}) {
                    // What needs the second purge comes when a fetch from ahead of both is answered already.
                    if (above != -1 || need != first + 1) {
                        secondsNoLess(first, above, need);
                    }
                }
            }
        }
        for (int told = 1; told <= 7; told++) {
            ofTheHardPurgeAtThePlace(told);
        }
        forNobodyOfTheHardPurge(true);
        forNobodyOfTheHardPurge(false);
        purgedInSecondZero(true);
        purgedInSecondZero(false);
        piecesOfFetches();
        piecesOfCopies();
        piecesOfPages();
        howManyWait();
        noneWaitForOneForNobody();
        forNobodyHoweverManyWait();
        forNobodyInSpiteOfOthers();
        theLowest();
        noneThatIsOver();
        keysOfFetches(0, 9);
        keysOfFetches(EdgeOrchard.BY_LANGUAGE, 3);
        keysOfFetches(EdgeOrchard.BY_KIND, 6);
        keysOfFetches(EdgeOrchard.BY_LANGUAGE | EdgeOrchard.BY_KIND, 6);
        Check.end("ComingsTest");
    }
}
