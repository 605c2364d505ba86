public final class Example {
    public static void main(String[] args) {
        EdgeOrchard x = new EdgeOrchard();

        // A page of 3 pieces that varies by language. A copy is fresh for 60 seconds; behind that it is given stale for 10
        // seconds, while it is fetched again, and for 100 if there is an error. The page has the marks 0 and 2.
        int page = x.page(3, EdgeOrchard.BY_LANGUAGE, 60, 10, 100, 0b101);

        // A place that asks the origin, 2 seconds away, with room for 20 pieces, and one that asks that place, 1 second
        // away, with room for 10, which keeps only what was asked for twice.
        int upper = x.place(EdgeOrchard.NONE, 2, 20, false);
        int lower = x.place(upper, 1, 10, true);

        // A reader wants pieces 0 to 2 at the lower place, in language 1, of kind 0.
        int first = x.ask(lower, page, 1, 0, 0, 2);
        System.out.println(x.answer(first, 0) == EdgeOrchard.WAITING);   // true
        x.pass(3);
        System.out.println(x.answer(first, 0) == EdgeOrchard.ANSWERED);  // true
        System.out.println(x.answer(first, 1));                          // 1, the version
        System.out.println(x.answer(first, 2) == EdgeOrchard.FETCHED);   // true
        System.out.println(x.answer(first, 3));                          // 3, the second in which the origin told it

        // The upper place has a copy now, the lower one has not: it was asked once only.
        System.out.println(x.copies(upper));                             // 1
        System.out.println(x.copies(lower));                             // 0

        // The same again, at the upper place: at once, from its copy.
        int second = x.ask(upper, page, 1, 0, 0, 2);
        System.out.println(x.answer(second, 2) == EdgeOrchard.FRESH);    // true

        // The page changes, and a hard purge of all pages with mark 2 is told: it comes to each place after its delay.
        System.out.println(x.update(page));                              // 2, the version
        int purge = x.purgeMark(2, true);
        x.pass(1);
        System.out.println(x.isDone(purge));                             // false
        x.pass(1);
        System.out.println(x.isDone(purge));                             // true
        System.out.println(x.copies(upper));                             // 0

        // The origin is down when the next fetch comes there, and there is no copy left to give.
        x.down(true);
        int third = x.ask(upper, page, 1, 0, 0, 0);
        x.pass(2);
        System.out.println(x.answer(third, 0) == EdgeOrchard.FAILED);    // true
    }
}
