import java.util.ArrayList;
import java.util.List;

/**
 * Calls that are refused: each has to throw just the exception that is due, and change nothing. So they are made on one
 * of two objects that are made alike, and both have to be the same behind that, at once and when they are used further.
 */
final class Refused {
    interface Maker {
        EdgeOrchard make();
    }

    interface Call {
        long run(EdgeOrchard x);
    }

    private static final class Wrong {
        final String name;
        final Class<? extends RuntimeException> due;
        final Call call;

        Wrong(String name, Class<? extends RuntimeException> due, Call call) {
            this.name = name;
            this.due = due;
            this.call = call;
        }
    }

    private final String state;
    private final Maker maker;
    private final int places;
    private final int pages;
    private final int asks;
    private final int purges;
    private final List<Wrong> calls = new ArrayList<>();

    /** The numbers tell how much of the object is looked at: an object has 512 calls. */
    Refused(String state, Maker maker, int places, int pages, int asks, int purges) {
        this.state = state;
        this.maker = maker;
        this.places = places;
        this.pages = pages;
        this.asks = asks;
        this.purges = purges;
    }

    void add(String name, Class<? extends RuntimeException> due, Call call) {
        calls.add(new Wrong(name, due, call));
    }

    /** Makes all calls that were added, so many of them on each object. */
    void end(int callsOfOne) {
        for (int from = 0; from < calls.size(); from += callsOfOne) {
            EdgeOrchard x = maker.make();
            EdgeOrchard twin = maker.make();
            List<Wrong> some = calls.subList(from, Math.min(calls.size(), from + callsOfOne));
            for (Wrong wrong : some) {
                Check.throwsDue(state + ": " + wrong.name, wrong.due, () -> wrong.call.run(x));
            }
            String behind = state + ": all behind " + some.get(0).name + " and " + (some.size() - 1) + " more";
            Check.same(behind, look(x), look(twin));
            Check.same(behind + ", used further", usedFurther(x), usedFurther(twin));
        }
        calls.clear();
    }

    private String look(EdgeOrchard x) {
        return Look.all(x, places, pages, asks, purges);
    }

    /** What the next calls answer, or throw, tells of numbers, of errors in mind, and of what is on the way. */
    private static String usedFurther(EdgeOrchard x) {
        Call[] further = {
            o -> o.page(2, 0, 5, 5, 5, 1), o -> o.place(-1, 1, 5, false), o -> o.down(false) ? 1 : 0,
            o -> o.ask(0, 0, 0, 0, 0, 0), o -> o.ask(1, 1, 0, 0, 0, 0), o -> o.purge(0, true), o -> o.purgeMark(1, false),
            o -> o.pass(1), o -> o.pass(2), o -> o.copies(0), o -> o.copies(1), o -> o.served(0), o -> o.served(1),
            o -> o.fetched(0), o -> o.fetched(1), o -> o.onWay(0), o -> o.onWay(1), o -> o.fetches(), o -> o.origin(),
            o -> o.second(), o -> o.cut(0, false) ? 1 : 0, o -> o.rules(0, 0, 5, 5, 5), o -> o.update(0)};
        StringBuilder told = new StringBuilder();
        for (Call call : further) {
            told.append(' ').append(answerOf(call, x));
        }
        return told.toString();
    }

    private static String answerOf(Call call, EdgeOrchard x) {
        try {
            return Long.toString(call.run(x));
        } catch (IndexOutOfBoundsException | IllegalArgumentException | IllegalStateException thrown) {
            return thrown.getClass().getSimpleName();
        }
    }
}
