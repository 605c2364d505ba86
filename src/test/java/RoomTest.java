/** Promises 6, 8, 14 copies, 15 held: the room of places, who goes for whom, and admission by being asked twice. */
public final class RoomTest {
    private static final Class<IndexOutOfBoundsException> NO_SUCH = IndexOutOfBoundsException.class;

    /** Five pages of 1, 2, 3, 4 and 8 pieces, and a place with this room. */
    private static EdgeOrchard orchard(int room, boolean isTwice) {
        EdgeOrchard x = new EdgeOrchard();
        for (int pieces : new int[] {1, 2, 3, 4, 8}) {
            x.page(pieces, 0, 20, 10, 100, 0);
        }
        x.place(-1, 1, room, isTwice);
        return x;
    }

    private static void keep(EdgeOrchard x, int page, int first, int last) {
        x.ask(0, page, 0, 0, first, last);
        x.pass(1);
    }

    private static String pagesThere(EdgeOrchard x) {
        StringBuilder there = new StringBuilder();
        for (int page = 0; page < 5; page++) {
            if (x.copy(0, page, 0, 0, 0) != EdgeOrchard.NONE) {
                there.append(page);
            }
        }
        return there.toString();
    }

    private static void thereDue(EdgeOrchard x, String pages, int held) {
        Check.same("pages there in second " + x.second(), pagesThere(x), pages);
        Check.due("copies(0) in second " + x.second(), x.copies(0), pages.length());
        Check.due("held(0) in second " + x.second(), x.held(0), held);
    }

    private static void theLongestUnusedGoes() {
        EdgeOrchard x = orchard(6, false);
        thereDue(x, "", 0);
        keep(x, 0, 0, 0);
        keep(x, 1, 0, 1);
        keep(x, 2, 0, 2);
        thereDue(x, "012", 6);
        // Page 0 is given, so page 1 is now the one unused the longest.
        x.ask(0, 0, 0, 0, 0, 0);
        Look.answerDue(x, 3, "fresh 1 1");
        keep(x, 3, 0, 0);
        thereDue(x, "023", 5);
        keep(x, 3, 1, 3);
        thereDue(x, "03", 5);
        keep(x, 4, 0, 4);
        thereDue(x, "4", 5);
    }

    /** Several go for one, in the order of their use; a copy that is too large for the room goes as the last. */
    private static void severalGoAndThisOneLast() {
        EdgeOrchard x = orchard(7, false);
        keep(x, 2, 0, 2);
        keep(x, 0, 0, 0);
        keep(x, 1, 0, 1);
        keep(x, 3, 0, 3);
        thereDue(x, "013", 7);
        x.ask(0, 4, 0, 0, 0, 7);
        x.pass(1);
        thereDue(x, "", 0);
        Look.answerDue(x, 4, "fetched 1 5");
        keep(x, 4, 0, 6);
        thereDue(x, "4", 7);
        keep(x, 4, 7, 7);
        thereDue(x, "", 0);
        Look.answerDue(x, 6, "fetched 1 7");
    }

    /** In one second the order of the calls counts; what is given stale, or on errors, is given too. */
    private static void givenInAnyWay() {
        EdgeOrchard x = orchard(3, false);
        x.ask(0, 0, 0, 0, 0, 0);
        x.ask(0, 1, 0, 0, 0, 0);
        x.ask(0, 2, 0, 0, 0, 0);
        x.pass(1);
        thereDue(x, "012", 3);
        x.pass(20);
        x.ask(0, 0, 0, 0, 0, 0);
        Look.answerDue(x, 3, "stale 1 1");
        x.ask(0, 3, 0, 0, 0, 0);
        x.pass(1);
        thereDue(x, "023", 3);
        EdgeOrchard y = orchard(3, false);
        y.ask(0, 0, 0, 0, 0, 0);
        y.ask(0, 1, 0, 0, 0, 0);
        y.ask(0, 2, 0, 0, 0, 0);
        y.pass(1);
        y.pass(40);
        y.down(true);
        y.ask(0, 0, 0, 0, 0, 0);
        y.pass(1);
        Look.answerDue(y, 3, "stale 1 1");
        y.down(false);
        y.ask(0, 3, 0, 0, 0, 0);
        y.pass(1);
        thereDue(y, "023", 3);
    }

    /** What is given to a place below is given too. */
    private static void givenToPlacesBelow() {
        EdgeOrchard x = orchard(2, false);
        x.place(0, 1, 40, false);
        keep(x, 0, 0, 0);
        keep(x, 1, 0, 0);
        x.ask(1, 0, 0, 0, 0, 0);
        x.pass(1);
        keep(x, 2, 0, 0);
        thereDue(x, "02", 2);
    }

    /** Being kept anew counts as use, also if no piece came to it. */
    private static void keptAnew() {
        EdgeOrchard x = orchard(2, false);
        keep(x, 0, 0, 0);
        keep(x, 1, 0, 0);
        x.pass(38);
        keep(x, 0, 0, 0);
        Look.answerDue(x, 2, "fetched 1 41");
        keep(x, 2, 0, 0);
        thereDue(x, "02", 2);
    }

    /** Rooms are of pieces over all copies, those for languages and kinds too. */
    private static void languagesTakeRoom() {
        EdgeOrchard x = new EdgeOrchard();
        x.page(2, 3, 50, 0, 0, 0);
        x.place(-1, 1, 11, false);
        for (int language = 0; language < 3; language++) {
            for (int kind = 0; kind < 2; kind++) {
                x.ask(0, 0, language, kind, 0, 1);
            }
        }
        x.pass(1);
        Check.due("copies(0)", x.copies(0), 5);
        Check.due("held(0)", x.held(0), 10);
        Look.copyDue(x, 0, 0, 0, 0, "none");
        Look.copyDue(x, 0, 0, 0, 1, "1 1 3 -1");
        x.pass(1);
        x.ask(0, 0, 0, 0, 1, 1);
        x.pass(1);
        Check.due("copies(0) with one piece", x.copies(0), 6);
        Check.due("held(0) with one piece", x.held(0), 11);
    }

    private static void askedTwice() {
        EdgeOrchard x = orchard(40, true);
        keep(x, 0, 0, 0);
        thereDue(x, "", 0);
        Look.answerDue(x, 0, "fetched 1 1");
        Check.due("varies(0, 0) of what is not kept", x.varies(0, 0), 0);
        keep(x, 0, 0, 0);
        thereDue(x, "0", 1);
        // Two at once, of other pieces; the first answer comes when both have come.
        x.ask(0, 2, 0, 0, 0, 0);
        x.ask(0, 2, 0, 0, 1, 1);
        x.pass(1);
        thereDue(x, "02", 3);
        // Asks that came ahead of the answer count, and only those for this page.
        x.ask(0, 3, 0, 0, 0, 0);
        x.ask(0, 4, 0, 0, 0, 0);
        x.pass(1);
        thereDue(x, "02", 3);
        Check.due("fetched(0)", x.fetched(0), 6);
    }

    /** Fetches from below count as asks do; a fetch of a place that is cut off does not come. */
    private static void twiceFromBelow() {
        EdgeOrchard x = orchard(40, true);
        x.place(0, 1, 40, false);
        x.place(0, 1, 40, true);
        x.cut(1, true);
        x.ask(1, 0, 0, 0, 0, 0);
        x.pass(1);
        x.cut(1, false);
        x.pass(2);
        x.ask(1, 0, 0, 0, 0, 0);
        x.pass(2);
        thereDue(x, "", 0);
        Check.due("copies(1), that admits all", x.copies(1), 1);
        x.ask(2, 0, 0, 0, 0, 0);
        x.pass(2);
        thereDue(x, "0", 1);
        Check.due("copies(2), asked once", x.copies(2), 0);
    }

    /** What comes counts for the page, in whatever language. */
    private static void twiceForAnotherLanguage() {
        EdgeOrchard x = new EdgeOrchard();
        x.page(1, EdgeOrchard.BY_LANGUAGE, 50, 0, 0, 0);
        x.place(-1, 1, 40, true);
        x.ask(0, 0, 0, 0, 0, 0);
        x.pass(1);
        Check.due("copies(0) of language 0", x.copies(0), 0);
        x.ask(0, 0, 1, 0, 0, 0);
        x.pass(1);
        Check.due("copies(0) of language 1", x.copies(0), 1);
        Look.copyDue(x, 0, 0, 1, 0, "1 2 1 -1");
    }

    private static void wrongPlaces() {
        EdgeOrchard x = orchard(1, false);
        for (int wrong : new int[] {-1, 1, 6, Integer.MAX_VALUE, Integer.MIN_VALUE}) {
            Check.throwsDue("copies(" + wrong + ")", NO_SUCH, () -> x.copies(wrong));
            Check.throwsDue("held(" + wrong + ")", NO_SUCH, () -> x.held(wrong));
        }
    }

    public static void main(String[] args) {
        theLongestUnusedGoes();
        severalGoAndThisOneLast();
        givenInAnyWay();
        givenToPlacesBelow();
        keptAnew();
        languagesTakeRoom();
        askedTwice();
        twiceFromBelow();
        twiceForAnotherLanguage();
        wrongPlaces();
        Check.end("RoomTest");
    }
}
