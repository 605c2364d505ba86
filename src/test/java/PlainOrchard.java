import java.util.ArrayList;
import java.util.HashMap;
import java.util.HashSet;
import java.util.LinkedHashMap;
import java.util.List;
import java.util.Map;
import java.util.Set;
import java.util.TreeSet;

/**
 * The document told a second time, with maps and lists and no thought of room or speed, so that ModelTest can hold
 * EdgeOrchard against it. Arguments are not looked at: only calls that the document allows may be made.
 */
final class PlainOrchard {
    record Rules(int varies, int life, int meanwhile, int onErrors) {
    }

    record Told(int version, int time, Rules rules) {
    }

    record Key(int page, int language, int kind) {
    }

    static final class Page {
        int number;
        int pieces;
        int marks;
        int version = 1;
        Rules rules;
    }

    static final class Copy {
        Told told;
        final TreeSet<Integer> pieces = new TreeSet<>();
        Integer softSince;
    }

    static final class Place {
        int number;
        Place parent;
        int delay;
        int room;
        boolean isTwice;
        boolean isCut;
        int served;
        int fetched;
        final Map<Integer, Integer> known = new HashMap<>();
        final Map<Integer, Integer> hard = new HashMap<>();
        final Map<Integer, Integer> errors = new HashMap<>();
        final Map<Integer, Integer> comings = new HashMap<>();
        /** The copy that was given, or kept, the longest ago is the first. */
        final LinkedHashMap<Key, Copy> copies = new LinkedHashMap<>();

        int pieces() {
            return copies.values().stream().mapToInt(copy -> copy.pieces.size()).sum();
        }

        int hardOf(int page) {
            return hard.getOrDefault(page, -1);
        }
    }

    /** An ask, if the place that made it is null; otherwise a fetch. */
    static final class Wanted {
        int number;
        int page;
        int language;
        int kind;
        TreeSet<Integer> pieces;
        int[] tells = {0, -1, -1, -1};
        Place maker;
        int above;
        boolean isAlone;
        int comesAt;
        boolean isOver;
        final List<Wanted> waiting = new ArrayList<>();
    }

    static final class Purge {
        Set<Integer> pages;
        boolean isHard;
        int second;
        final Set<Place> hasComeTo = new HashSet<>();
    }

    final List<Page> pages = new ArrayList<>();
    final List<Place> places = new ArrayList<>();
    final List<Wanted> asks = new ArrayList<>();
    final List<Wanted> fetches = new ArrayList<>();
    final List<Purge> purges = new ArrayList<>();
    int second;
    boolean isDown;
    int origin;

    int page(int pieces, int varies, int life, int meanwhile, int onErrors, int marks) {
        Page page = new Page();
        page.number = pages.size();
        page.pieces = pieces;
        page.marks = marks;
        page.rules = new Rules(varies, life, meanwhile, onErrors);
        pages.add(page);
        return page.number;
    }

    int update(int page) {
        return ++pages.get(page).version;
    }

    int rules(int page, int varies, int life, int meanwhile, int onErrors) {
        int varied = pages.get(page).rules.varies();
        pages.get(page).rules = new Rules(varies, life, meanwhile, onErrors);
        return varied;
    }

    boolean down(boolean nowDown) {
        boolean was = isDown;
        isDown = nowDown;
        return was;
    }

    int place(int parent, int delay, int room, boolean isTwice) {
        Place place = new Place();
        place.number = places.size();
        place.parent = parent < 0 ? null : places.get(parent);
        place.delay = delay;
        place.room = room;
        place.isTwice = isTwice;
        places.add(place);
        return place.number;
    }

    boolean cut(int place, boolean nowCut) {
        boolean was = places.get(place).isCut;
        places.get(place).isCut = nowCut;
        return was;
    }

    int ask(int place, int page, int language, int kind, int first, int last) {
        Wanted ask = new Wanted();
        ask.number = asks.size();
        ask.page = page;
        ask.language = language;
        ask.kind = kind;
        ask.pieces = new TreeSet<>();
        for (int piece = first; piece <= last; piece++) {
            ask.pieces.add(piece);
        }
        asks.add(ask);
        comes(places.get(place), ask);
        return ask.number;
    }

    int purge(int page, boolean isHard) {
        return purgeOf(Set.of(page), isHard);
    }

    int purgeMark(int mark, boolean isHard) {
        Set<Integer> marked = new HashSet<>();
        for (Page page : pages) {
            if ((page.marks & (1 << mark)) != 0) {
                marked.add(page.number);
            }
        }
        return purgeOf(marked, isHard);
    }

    private int purgeOf(Set<Integer> which, boolean isHard) {
        Purge purge = new Purge();
        purge.pages = which;
        purge.isHard = isHard;
        purge.second = second;
        purges.add(purge);
        return purges.size() - 1;
    }

    int pass(int seconds) {
        for (int i = 0; i < seconds; i++) {
            second = second + 1;
            for (Purge purge : purges) {
                for (Place place : places) {
                    if (!place.isCut && second >= purge.second + place.delay && purge.hasComeTo.add(place)) {
                        purgeComes(place, purge);
                    }
                }
            }
            for (Wanted fetch : new ArrayList<>(fetches)) {
                if (fetch.comesAt == second) {
                    fetchArrives(fetch);
                }
            }
        }
        return second;
    }

    private void purgeComes(Place place, Purge purge) {
        for (int page : purge.pages) {
            if (purge.isHard) {
                place.hard.merge(page, purge.second, Integer::max);
                place.copies.entrySet().removeIf(e -> e.getKey().page() == page
                        && e.getValue().told.time() <= purge.second);
                continue;
            }
            place.copies.forEach((key, copy) -> {
                if (key.page() == page && copy.told.time() <= purge.second && copy.softSince == null) {
                    copy.softSince = second;
                }
            });
        }
    }

    private void fetchArrives(Wanted fetch) {
        boolean isError = fetch.maker.isCut || (fetch.maker.parent == null && isDown);
        if (isError) {
            gotError(fetch);
        } else if (fetch.maker.parent != null) {
            comes(fetch.maker.parent, fetch);
        } else {
            origin++;
            Page page = pages.get(fetch.page);
            gotAnswer(fetch, new Told(page.version, second, page.rules));
        }
    }

    private static boolean has(int varies, int bit) {
        return (varies & bit) == bit;
    }

    private Key keyAt(Place place, Wanted wanted) {
        return keyAt(place, wanted.page, wanted.language, wanted.kind);
    }

    private Key keyAt(Place place, int page, int language, int kind) {
        int varies = place.known.getOrDefault(page, EdgeOrchard.BY_LANGUAGE | EdgeOrchard.BY_KIND);
        return new Key(page, has(varies, EdgeOrchard.BY_LANGUAGE) ? language : -1,
                has(varies, EdgeOrchard.BY_KIND) ? kind : -1);
    }

    private int need(Place place, Wanted wanted) {
        return wanted.maker == null ? place.hardOf(wanted.page) : wanted.above;
    }

    private Copy goodCopy(Place place, Wanted wanted) {
        Copy copy = place.copies.get(keyAt(place, wanted));
        boolean isGood = copy != null && copy.told.time() > need(place, wanted) && copy.pieces.containsAll(wanted.pieces);
        return isGood ? copy : null;
    }

    private void comes(Place place, Wanted wanted) {
        place.comings.merge(wanted.page, 1, Integer::sum);
        if (has(place.known.getOrDefault(wanted.page, 0), EdgeOrchard.PRIVATE)) {
            fetch(place, wanted, wanted, true);
            return;
        }
        Copy copy = goodCopy(place, wanted);
        if (copy != null) {
            int oldAt = copy.told.time() + copy.told.rules().life();
            if (copy.softSince == null && second < oldAt) {
                giveCopy(place, wanted, EdgeOrchard.FRESH);
                return;
            }
            int staleFrom = copy.softSince == null ? oldAt : copy.softSince;
            if (second < staleFrom + copy.told.rules().meanwhile()) {
                giveCopy(place, wanted, EdgeOrchard.STALE);
                if (takers(place, wanted).isEmpty()) {
                    fetch(place, wanted, null, false);
                }
                return;
            }
        }
        Integer error = place.errors.get(wanted.page);
        if (error != null && (error == second || error == second - 1)) {
            dueOnError(place, wanted);
            return;
        }
        List<Wanted> takers = takers(place, wanted);
        if (!takers.isEmpty() && takers.get(0).waiting.size() < 4) {
            takers.get(0).waiting.add(wanted);
        } else {
            fetch(place, wanted, wanted, false);
        }
    }

    private List<Wanted> takers(Place place, Wanted wanted) {
        List<Wanted> takers = new ArrayList<>();
        for (Wanted fetch : fetches) {
            if (fetch.maker == place && !fetch.isOver && !fetch.isAlone && fetch.page == wanted.page
                    && keyAt(place, fetch).equals(keyAt(place, wanted)) && fetch.pieces.containsAll(wanted.pieces)
                    && fetch.above >= need(place, wanted)) {
                takers.add(fetch);
            }
        }
        return takers;
    }

    /** What: the pieces and the key that are fetched; who: for whom, or null. */
    private void fetch(Place place, Wanted what, Wanted who, boolean isAlone) {
        if (fetches.size() == 400) {
            if (who != null) {
                dueOnError(place, who);
            }
            return;
        }
        Wanted fetch = new Wanted();
        fetch.number = fetches.size();
        fetch.page = what.page;
        fetch.language = what.language;
        fetch.kind = what.kind;
        fetch.pieces = what.pieces;
        fetch.maker = place;
        fetch.above = place.hardOf(what.page);
        if (who != null && need(place, who) > fetch.above) {
            fetch.above = need(place, who);
        }
        fetch.isAlone = isAlone;
        fetch.comesAt = second + place.delay;
        if (who != null) {
            fetch.waiting.add(who);
        }
        fetches.add(fetch);
    }

    private void giveCopy(Place place, Wanted wanted, int how) {
        Key key = keyAt(place, wanted);
        Copy copy = place.copies.remove(key);
        place.copies.put(key, copy);
        give(place, wanted, copy.told, how);
    }

    private void give(Place place, Wanted wanted, Told told, int how) {
        place.served += wanted.pieces.size();
        if (wanted.maker == null) {
            wanted.tells = new int[] {EdgeOrchard.ANSWERED, told.version(), how, told.time()};
        } else {
            gotAnswer(wanted, told);
        }
    }

    private void dueOnError(Place place, Wanted wanted) {
        Copy copy = goodCopy(place, wanted);
        Rules rules = copy == null ? null : copy.told.rules();
        if (copy != null && second < copy.told.time() + rules.life() + rules.onErrors()) {
            giveCopy(place, wanted, EdgeOrchard.STALE);
        } else if (wanted.maker == null) {
            wanted.tells[0] = EdgeOrchard.FAILED;
        } else {
            gotError(wanted);
        }
    }

    private void gotError(Wanted fetch) {
        fetch.isOver = true;
        if (!fetch.isAlone) {
            fetch.maker.errors.put(fetch.page, second);
        }
        for (Wanted wanted : fetch.waiting) {
            dueOnError(fetch.maker, wanted);
        }
    }

    private void gotAnswer(Wanted fetch, Told told) {
        Place place = fetch.maker;
        fetch.isOver = true;
        Integer knew = place.known.put(fetch.page, told.rules().varies());
        if (knew != null && knew != told.rules().varies()) {
            place.copies.keySet().removeIf(key -> key.page() == fetch.page);
        }
        Key key = keyAt(place, fetch);
        Copy had = place.copies.get(key);
        boolean hasIt = had != null && had.told.version() == told.version() && had.pieces.containsAll(fetch.pieces);
        place.fetched += hasIt ? 0 : fetch.pieces.size();
        boolean isPrivate = has(told.rules().varies(), EdgeOrchard.PRIVATE);
        boolean isAdmitted = !place.isTwice || had != null || place.comings.getOrDefault(fetch.page, 0) >= 2;
        if (!isPrivate && isAdmitted && told.time() > place.hardOf(fetch.page)) {
            keep(place, key, fetch, told);
        }
        List<Wanted> others = new ArrayList<>(fetch.waiting);
        if (!isPrivate) {
            others.forEach(wanted -> give(place, wanted, told, EdgeOrchard.FETCHED));
        } else if (!others.isEmpty()) {
            give(place, others.remove(0), told, EdgeOrchard.FETCHED);
            others.forEach(wanted -> comes(place, wanted));
        }
    }

    private void keep(Place place, Key key, Wanted fetch, Told told) {
        Copy had = place.copies.remove(key);
        Copy copy = had != null && had.told.version() == told.version() ? had : new Copy();
        copy.told = told;
        copy.softSince = null;
        copy.pieces.addAll(fetch.pieces);
        place.copies.put(key, copy);
        while (place.pieces() > place.room) {
            place.copies.remove(place.copies.keySet().iterator().next());
        }
    }

    int answer(int ask, int what) {
        return asks.get(ask).tells[what];
    }

    int copies(int place) {
        return places.get(place).copies.size();
    }

    int held(int place) {
        return places.get(place).pieces();
    }

    int copy(int place, int page, int language, int kind, int what) {
        Copy copy = places.get(place).copies.get(keyAt(places.get(place), page, language, kind));
        if (copy == null) {
            return -1;
        }
        return switch (what) {
            case 0 -> copy.told.version();
            case 1 -> copy.told.time();
            case 2 -> copy.pieces.stream().mapToInt(piece -> 1 << piece).sum();
            default -> copy.softSince == null ? -1 : copy.softSince;
        };
    }

    int varies(int place, int page) {
        return places.get(place).known.getOrDefault(page, -1);
    }

    int onWay(int place) {
        return (int) fetches.stream().filter(fetch -> fetch.maker.number == place && !fetch.isOver).count();
    }

    boolean isDone(int purge) {
        return purges.get(purge).hasComeTo.containsAll(places);
    }
}
