import java.util.ArrayList;
import java.util.List;

/**
 * Promises 2 to 11, 13 to 19, 21, 23: each argument at its least and its most, one below, one above and far off, together
 * with all of these for the other arguments: which calls are refused, by which exception, and that they change nothing.
 * This at objects that have nothing, that have some of all, and that have the most of all.
 */
public final class ArgumentsTest {
    private static final Class<IndexOutOfBoundsException> NO_SUCH = IndexOutOfBoundsException.class;
    private static final Class<IllegalArgumentException> WRONG = IllegalArgumentException.class;
    private static final Class<IllegalStateException> FULL = IllegalStateException.class;
    private static final int FAR = Integer.MAX_VALUE;
    private static final int LOW = Integer.MIN_VALUE;

    interface Call {
        long run(EdgeOrchard x, int[] with);
    }

    /** What the document asks of arguments: the exception that is due, or null. */
    interface Due {
        Class<? extends RuntimeException> of(int[] with);
    }

    private final String state;
    private final Refused.Maker maker;
    private final int pages;
    private final int places;
    private final int asks;
    private final int purges;
    private final int second;
    private final boolean isFull;

    private ArgumentsTest(String state, Refused.Maker maker, int pages, int places, int asks, int purges, int second) {
        this.state = state;
        this.maker = maker;
        this.pages = pages;
        this.places = places;
        this.asks = asks;
        this.purges = purges;
        this.second = second;
        isFull = pages == 12;
    }

    /** Two pages, of 3 pieces and of 8, two places, copies, some of them soft, asks of all states, purges on the way. */
    private static EdgeOrchard busy() {
        EdgeOrchard x = new EdgeOrchard();
        x.page(3, 0, 3, 9, 20, 1);
        x.page(8, 3, 9, 0, 0, 2);
        x.place(-1, 1, 9, false);
        x.place(0, 2, 9, true);
        x.ask(0, 0, 0, 0, 0, 2);
        x.pass(1);
        x.purge(0, false);
        x.pass(1);
        x.down(true);
        x.ask(0, 1, 2, 1, 5, 7);
        x.pass(1);
        x.purge(1, true);
        x.ask(1, 0, 2, 1, 0, 1);
        return x;
    }

    /** The most of all that there can be, in second 5000, in 298 calls. */
    private static EdgeOrchard full() {
        EdgeOrchard x = new EdgeOrchard();
        for (int k = 0; k < 12; k++) {
            x.page(k == 0 ? 3 : 8, 0, 100, 50, 200, 15);
        }
        for (int k = 0; k < 6; k++) {
            x.place(k - 1, 1, 40, false);
        }
        for (int k = 0; k < 49; k++) {
            x.pass(100);
        }
        for (int k = 0; k < 30; k++) {
            x.purge(k % 12, k % 2 == 0);
        }
        for (int k = 0; k < 198; k++) {
            x.ask(0, 0, 0, 0, 0, 2);
        }
        x.pass(100);
        x.ask(0, 0, 0, 0, 0, 2);
        x.ask(1, 1, 0, 0, 0, 7);
        return x;
    }

    private static boolean isNumber(int value, int count) {
        return value >= 0 && value < count;
    }

    private static boolean isWithin(int value, int least, int most) {
        return value >= least && value <= most;
    }

    /** One below the least, the least, the most, one above it, and both ends of int. */
    private static int[] edges(int least, int most) {
        return new int[] {LOW, least - 1, least, most, most + 1, FAR};
    }

    private static int[] numbers(int count) {
        return edges(0, Math.max(0, count - 1));
    }

    private void all(String name, Call call, Due due, int[]... values) {
        // Of the most object little can be looked at, for it takes most of its calls to make it.
        Refused refused = new Refused(state, maker, Math.min(places, 2), Math.min(pages, isFull ? 1 : 2), Math.min(asks, 3),
                Math.min(purges, 2));
        List<int[]> allowed = new ArrayList<>();
        int[] at = new int[values.length];
        do {
            int[] with = new int[values.length];
            for (int k = 0; k < values.length; k++) {
                with[k] = values[k][at[k]];
            }
            Class<? extends RuntimeException> want = due.of(with);
            if (want == null) {
                allowed.add(with);
            } else {
                refused.add(name + java.util.Arrays.toString(with), want, x -> call.run(x, with));
            }
        } while (isNext(at, values));
        refused.end(isFull ? 60 : 200);
        for (int[] with : allowed) {
            EdgeOrchard x = maker.make();
            long answer = call.run(x, with);
            Check.due(state + ": " + name + java.util.Arrays.toString(with) + " answers", answer >= -1, true);
        }
    }

    private static boolean isNext(int[] at, int[][] values) {
        for (int k = 0; k < at.length; k++) {
            at[k]++;
            if (at[k] < values[k].length) {
                return true;
            }
            at[k] = 0;
        }
        return false;
    }

    private Class<? extends RuntimeException> fullOr(boolean isReached) {
        return isReached ? FULL : null;
    }

    private static boolean areRules(int varies, int life, int meanwhile, int onErrors) {
        return isWithin(varies, 0, 7) && isWithin(life, 0, 100) && isWithin(meanwhile, 0, 50) && isWithin(onErrors, 0, 200);
    }

    private void origin() {
        all("page", (x, a) -> x.page(a[0], a[1], a[2], a[3], a[4], a[5]),
                a -> !isWithin(a[0], 1, 8) || !areRules(a[1], a[2], a[3], a[4]) || !isWithin(a[5], 0, 15) ? WRONG
                        : fullOr(pages == 12),
                edges(1, 8), edges(0, 7), edges(0, 100), edges(0, 50), edges(0, 200), edges(0, 15));
        all("update", (x, a) -> x.update(a[0]), a -> isNumber(a[0], pages) ? null : NO_SUCH, numbers(pages));
        all("rules", (x, a) -> x.rules(a[0], a[1], a[2], a[3], a[4]),
                a -> !isNumber(a[0], pages) ? NO_SUCH : areRules(a[1], a[2], a[3], a[4]) ? null : WRONG,
                numbers(pages), edges(0, 7), edges(0, 100), edges(0, 50), edges(0, 200));
    }

    private void places() {
        for (boolean isTwice : new boolean[] {false, true}) {
            all("place", (x, a) -> x.place(a[0], a[1], a[2], isTwice),
                    a -> a[0] != -1 && !isNumber(a[0], places) ? NO_SUCH
                            : isWithin(a[1], 1, 9) && isWithin(a[2], 1, 40) ? fullOr(places == 6) : WRONG,
                    new int[] {LOW, -2, -1, 0, places - 1, places, FAR}, edges(1, 9), edges(1, 40));
            all("cut", (x, a) -> x.cut(a[0], isTwice) ? 1 : 0, a -> isNumber(a[0], places) ? null : NO_SUCH, numbers(places));
        }
    }

    private void asks() {
        int[] pieces = {LOW, -1, 0, 2, 3, 7, 8, FAR};
        all("ask", (x, a) -> x.ask(a[0], a[1], a[2], a[3], a[4], a[5]), a -> {
            if (!isNumber(a[0], places) || !isNumber(a[1], pages) || !isNumber(a[2], 3) || !isNumber(a[3], 2)) {
                return NO_SUCH;
            }
            int count = a[1] == 0 ? 3 : 8;
            if (!isNumber(a[4], count) || !isNumber(a[5], count)) {
                return NO_SUCH;
            }
            return a[5] < a[4] ? WRONG : fullOr(asks == 200);
        }, numbers(places), numbers(pages), numbers(3), numbers(2), pieces, pieces);
    }

    private void purgesAndSeconds() {
        for (boolean isHard : new boolean[] {false, true}) {
            all("purge", (x, a) -> x.purge(a[0], isHard), a -> isNumber(a[0], pages) ? fullOr(purges == 30) : NO_SUCH,
                    numbers(pages));
            all("purgeMark", (x, a) -> x.purgeMark(a[0], isHard), a -> isNumber(a[0], 4) ? fullOr(purges == 30) : NO_SUCH,
                    numbers(4));
        }
        all("pass", (x, a) -> x.pass(a[0]), a -> !isWithin(a[0], 1, 100) ? WRONG : fullOr(second + a[0] > 5000),
                edges(1, 100));
    }

    private void questions() {
        all("answer", (x, a) -> x.answer(a[0], a[1]),
                a -> !isNumber(a[0], asks) ? NO_SUCH : isWithin(a[1], 0, 3) ? null : WRONG, numbers(asks), edges(0, 3));
        all("copies", (x, a) -> x.copies(a[0]), a -> isNumber(a[0], places) ? null : NO_SUCH, numbers(places));
        all("held", (x, a) -> x.held(a[0]), a -> isNumber(a[0], places) ? null : NO_SUCH, numbers(places));
        all("copy", (x, a) -> x.copy(a[0], a[1], a[2], a[3], a[4]),
                a -> !isNumber(a[0], places) || !isNumber(a[1], pages) || !isNumber(a[2], 3) || !isNumber(a[3], 2) ? NO_SUCH
                        : isWithin(a[4], 0, 3) ? null : WRONG,
                numbers(places), numbers(pages), numbers(3), numbers(2), edges(0, 3));
        all("varies", (x, a) -> x.varies(a[0], a[1]),
                a -> isNumber(a[0], places) && isNumber(a[1], pages) ? null : NO_SUCH, numbers(places), numbers(pages));
        all("served", (x, a) -> x.served(a[0]), a -> isNumber(a[0], places) ? null : NO_SUCH, numbers(places));
        all("fetched", (x, a) -> x.fetched(a[0]), a -> isNumber(a[0], places) ? null : NO_SUCH, numbers(places));
        all("onWay", (x, a) -> x.onWay(a[0]), a -> isNumber(a[0], places) ? null : NO_SUCH, numbers(places));
        all("isDone", (x, a) -> x.isDone(a[0]) ? 1 : 0, a -> isNumber(a[0], purges) ? null : NO_SUCH, numbers(purges));
    }

    private void everything() {
        origin();
        places();
        asks();
        purgesAndSeconds();
        questions();
    }

    public static void main(String[] args) {
        new ArgumentsTest("nothing", EdgeOrchard::new, 0, 0, 0, 0, 0).everything();
        new ArgumentsTest("some", ArgumentsTest::busy, 2, 2, 3, 2, 3).everything();
        new ArgumentsTest("most", ArgumentsTest::full, 12, 6, 200, 30, 5000).everything();
        Check.end("ArgumentsTest");
    }
}
