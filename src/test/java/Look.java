/** Looks at all that an object tells of itself, so that a test can see that a call has changed nothing. */
final class Look {
    private Look() {
    }

    /** Takes some 140 calls for two places, two pages and few asks: an object has 512. */
    static String all(EdgeOrchard x, int places, int pages, int asks, int purges) {
        StringBuilder seen = new StringBuilder();
        seen.append("second ").append(x.second()).append(" fetches ").append(x.fetches());
        seen.append(" origin ").append(x.origin());
        for (int place = 0; place < places; place++) {
            seen.append("\n  place ").append(place).append(": ").append(x.copies(place)).append(' ');
            seen.append(x.held(place)).append(' ').append(x.served(place)).append(' ');
            seen.append(x.fetched(place)).append(' ').append(x.onWay(place));
            for (int page = 0; page < pages; page++) {
                seen.append("; page ").append(page).append(": ").append(x.varies(place, page));
                seen.append(copiesOf(x, place, page));
            }
        }
        for (int ask = 0; ask < asks; ask++) {
            seen.append("\n  ask ").append(ask).append(": ").append(answer(x, ask));
        }
        for (int purge = 0; purge < purges; purge++) {
            seen.append(" purge ").append(purge).append(": ").append(x.isDone(purge));
        }
        return seen.toString();
    }

    private static String copiesOf(EdgeOrchard x, int place, int page) {
        StringBuilder seen = new StringBuilder();
        for (int language = 0; language < 3; language++) {
            for (int kind = 0; kind < 2; kind++) {
                seen.append(' ').append(copy(x, place, page, language, kind));
            }
        }
        return seen.toString();
    }

    /** "version time pieces soft", or "none", if all that it tells is that there is none. */
    static String copy(EdgeOrchard x, int place, int page, int language, int kind) {
        StringBuilder told = new StringBuilder();
        boolean isNone = true;
        for (int what = 0; what < 4; what++) {
            int one = x.copy(place, page, language, kind, what);
            isNone = isNone && one == EdgeOrchard.NONE;
            told.append(what == 0 ? "" : " ").append(one);
        }
        return isNone ? "none" : told.toString();
    }

    /** "waiting", "failed", or "fresh", "stale", "fetched" with version and time. */
    static String answer(EdgeOrchard x, int ask) {
        int state = x.answer(ask, 0);
        int version = x.answer(ask, 1);
        int how = x.answer(ask, 2);
        int time = x.answer(ask, 3);
        if (state == EdgeOrchard.ANSWERED) {
            String[] hows = {"fresh", "stale", "fetched"};
            return (how >= 0 && how < 3 ? hows[how] : "how " + how) + " " + version + " " + time;
        }
        if (version != EdgeOrchard.NONE || how != EdgeOrchard.NONE || time != EdgeOrchard.NONE) {
            return "state " + state + " with " + version + " " + how + " " + time;
        }
        return state == EdgeOrchard.WAITING ? "waiting" : state == EdgeOrchard.FAILED ? "failed" : "state " + state;
    }

    /** Both at once: what became of an ask. */
    static void answerDue(EdgeOrchard x, int ask, String want) {
        Check.same("ask " + ask + " in second " + x.second(), answer(x, ask), want);
    }

    static void copyDue(EdgeOrchard x, int place, int page, String want) {
        copyDue(x, place, page, 0, 0, want);
    }

    static void copyDue(EdgeOrchard x, int place, int page, int language, int kind, String want) {
        Check.same("copy(" + place + ", " + page + ", " + language + ", " + kind + ") in second " + x.second(),
                copy(x, place, page, language, kind), want);
    }
}
