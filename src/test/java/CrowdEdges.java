import java.util.function.Supplier;

/** The sentences of the promises 19 to 26: the crowd at single times, the busy times and the free ones. */
final class CrowdEdges extends Edges {
    CrowdEdges(Check check) {
        super(check);
    }

    void all() {
        each(this::crowd, this::change, this::greatest, this::greatestFrom, this::busy, this::busyEdges,
                this::spans, this::span, this::spanEdges, this::free, this::freeRanges);
    }

    private void crowd() {
        promise(19);
        sentence("Returns the crowd of a house at a time");
        int[][] due = {{9, 0}, {10, 3}, {14, 3}, {15, 5}, {19, 5}, {20, 2}, {24, 2}, {25, 0}, {29, 0}, {30, 9},
            {31, 0}};
        for (int[] d : due) {
            asked(Edges::crowded, "crowd at " + d[0], d[1], x -> x.crowd(0, d[0]));
            asked(Edges::crowded, "crowd of another house at " + d[0], 0, x -> x.crowd(1, d[0]));
        }
        sentence("Returns the crowd");
        asked(Edges::all120, "crowd of 120 of weight 9", 1080, x -> x.crowd(0, 9999));
        houses("crowd", (x, h) -> x.crowd(h, 13), (x, h) -> x.crowd(h, LOW), 1, 2, 3, 4);

        sentence("`time`: the time, or any other number, at which it is 0");
        for (int time : new int[] {LOW, -1, 10499, 10500, 20000, HIGH}) {
            asked(Edges::all120, "crowd at " + time, 0, x -> x.crowd(0, time));
            asked(Bookinghouse::new, "crowd of a new house at " + time, 0, x -> x.crowd(0, time));
        }
        asked(after(x -> {
            x.book(0, 0, 1, 4);
            x.next(0);
        }), "crowd at 0", 4, x -> x.crowd(0, 0));
        asked(Edges::onAtTheEnd, "crowd at 9999", 2, x -> x.crowd(0, 9999));
        asked(Edges::onAtTheEnd, "crowd at 10498", 2, x -> x.crowd(0, 10498));
    }

    private void change() {
        promise(20);
        sentence("Returns what the crowd of a house is more at a time than right ahead of it");
        int[][] due = {{9, 0}, {10, 3}, {11, 0}, {14, 0}, {15, 2}, {16, 0}, {20, -3}, {21, 0}, {25, -2}, {26, 0},
            {30, 9}, {31, -9}, {32, 0}};
        for (int[] d : due) {
            asked(Edges::crowded, "change at " + d[0], d[1], x -> x.change(0, d[0]));
            asked(Edges::crowded, "change of another house at " + d[0], 0, x -> x.change(1, d[0]));
        }
        houses("change", (x, h) -> x.change(h, 12), (x, h) -> x.change(h, LOW), 0, 0, 3, 0);

        sentence("`time`: the time, or any other number");
        for (int time : new int[] {LOW, LOW + 1, -1, 10498, 10500, 20000, HIGH}) {
            asked(Edges::onAtTheEnd, "change at " + time, 0, x -> x.change(0, time));
            asked(Bookinghouse::new, "change of a new house at " + time, 0, x -> x.change(0, time));
        }
        asked(Edges::onAtTheEnd, "change at 9999", 2, x -> x.change(0, 9999));
        asked(Edges::onAtTheEnd, "change at 10499", -2, x -> x.change(0, 10499));

        sentence("Returns the crowd less that at time - 1; below 0 if it is less");
        asked(after(x -> {
            x.book(0, 0, 1, 4);
            x.next(0);
        }), "change at 0", 4, x -> x.change(0, 0));
        Supplier<Bookinghouse> handedOn = after(x -> {
            x.book(0, 10, 5, 4);
            x.book(0, 15, 5, 4);
            x.book(0, 20, 5, 5);
            x.run(0, 20);
        });
        asked(handedOn, "change where one ends and one of the same weight begins", 0, x -> x.change(0, 15));
        asked(handedOn, "change where one ends and a heavier one begins", 1, x -> x.change(0, 20));
        asked(Edges::all120, "change by 120 of weight 9", 1080, x -> x.change(0, 9999));
        asked(Edges::all120, "change by 120 that end", -1080, x -> x.change(0, 10499));
        asked(Edges::neverBusy, "change where one of span 0 came", 0, x -> x.change(0, 10));
    }

    private void greatest() {
        promise(21);
        sentence("Returns the greatest crowd of a house at any time");
        asked(Edges::crowded, "greatest", 9, x -> x.greatest(0));
        asked(crowdedBackTo(29), "greatest without the last ones", 5, x -> x.greatest(0));
        asked(crowdedBackTo(14), "greatest of one", 3, x -> x.greatest(0));
        asked(Edges::all120, "greatest of 120 of weight 9", 1080, x -> x.greatest(0));
        asked(Edges::onAtTheEnd, "greatest of times that the clock has not come to", 2, x -> x.greatest(0));
        houses("greatest", (x, h) -> x.greatest(h), (x, h) -> x.greatest(h), 1, 2, 3, 4);
        sentence("Returns the crowd; 0 if no time is busy");
        asked(Bookinghouse::new, "greatest of a new house", 0, x -> x.greatest(0));
        asked(Edges::fourWait, "greatest of those that wait", 0, x -> x.greatest(0));
        asked(Edges::neverBusy, "greatest of span 0", 0, x -> x.greatest(0));
        asked(crowdedBackTo(9), "greatest of none", 0, x -> x.greatest(0));
        asked(after(x -> {
            x.book(0, 5, 1, 1);
            x.next(0);
        }), "greatest of the least", 1, x -> x.greatest(0));
    }

    private void greatestFrom() {
        promise(22);
        sentence("Returns the first time at which the crowd of a house is the greatest");
        asked(Edges::crowded, "greatestFrom", 30, x -> x.greatestFrom(0));
        asked(crowdedBackTo(29), "greatestFrom in the middle of a span", 15, x -> x.greatestFrom(0));
        asked(crowdedBackTo(14), "greatestFrom of one", 10, x -> x.greatestFrom(0));
        asked(after(x -> {
            x.book(0, 0, 0, 9);
            x.series(0, 0, 8, 3, 3, 2);
            x.run(0, 16);
        }), "greatestFrom of three alike, the first at 0", 0, x -> x.greatestFrom(0));
        asked(after(x -> {
            x.series(0, 10, 5, 2, 5, 4);
            x.run(0, 15);
        }), "greatestFrom of two right behind one another", 10, x -> x.greatestFrom(0));
        sentence("Returns the time");
        asked(Edges::onAtTheEnd, "greatestFrom at 9999", 9999, x -> x.greatestFrom(0));
        asked(after(x -> {
            x.book(0, 9998, 500, 1);
            x.book(0, 9999, 500, 1);
            x.run(0, 9999);
        }), "greatestFrom at the last time at which one can come", 9999, x -> x.greatestFrom(0));
        houses("greatestFrom", (x, h) -> x.greatestFrom(h), (x, h) -> x.greatestFrom(h), 10, 11, 12, 13);

        sentence("Throws `NoSuchElementException` if no time is busy");
        refused(Bookinghouse::new, "greatestFrom of a new house", ELEMENT, x -> x.greatestFrom(0));
        refused(Edges::fourWait, "greatestFrom of those that wait", ELEMENT, x -> x.greatestFrom(0));
        refused(Edges::neverBusy, "greatestFrom of span 0", ELEMENT, x -> x.greatestFrom(0));
        refused(crowdedBackTo(9), "greatestFrom of none", ELEMENT, x -> x.greatestFrom(0));
        refused(Edges::crowded, "greatestFrom of another house", ELEMENT, x -> x.greatestFrom(1));
    }

    private void busy() {
        promise(23);
        sentence("Returns how many times are busy, from one on, up to, not with, another one");
        int[][] due = {{0, 100, 16}, {10, 25, 15}, {9, 11, 1}, {10, 11, 1}, {9, 10, 0}, {24, 25, 1}, {24, 31, 2},
            {25, 30, 0}, {12, 17, 5}, {14, 16, 2}, {19, 21, 2}, {30, 31, 1}, {29, 30, 0}, {31, 32, 0}, {11, 31, 15}};
        for (int[] d : due) {
            asked(Edges::crowded, "busy from " + d[0] + " to " + d[1], d[2], x -> x.busy(0, d[0], d[1]));
            asked(Edges::crowded, "busy in another house", 0, x -> x.busy(1, d[0], d[1]));
        }
        asked(Edges::fourWait, "busy of those that wait", 0, x -> x.busy(0, 0, 100));
        asked(Edges::neverBusy, "busy of span 0", 0, x -> x.busy(0, 0, 100));
        houses("busy", (x, h) -> x.busy(h, 0, 100), (x, h) -> x.busy(h, 2, 1), 5, 6, 7, 8);
        sentence("Returns how many");
        asked(Bookinghouse::new, "busy of a new house", 0, x -> x.busy(0, LOW, HIGH));
        asked(Edges::all120, "busy of 120 at once", 500, x -> x.busy(0, LOW, HIGH));
        asked(after(x -> {
            x.series(0, 0, 500, 12, 500, 1);
            x.series(0, 6000, 500, 8, 500, 1);
            x.book(0, 9999, 500, 1);
            x.run(0, 9999);
        }), "busy from 0 to 10498", 10499, x -> x.busy(0, LOW, HIGH));
    }

    private void busyEdges() {
        promise(23);
        sentence("`from`: the first time, or any other number");
        int[][] froms = {{LOW, 16}, {-1, 16}, {0, 16}, {10, 16}, {11, 15}, {30, 1}, {31, 0}, {20000, 0}, {HIGH, 0}};
        for (int[] f : froms) {
            asked(Edges::crowded, "busy from " + f[0], f[1], x -> x.busy(0, f[0], HIGH));
        }
        sentence("`to`: the time behind the last one, or any other number");
        int[][] tos = {{LOW, 0}, {-1, 0}, {0, 0}, {10, 0}, {11, 1}, {30, 15}, {31, 16}, {20000, 16}, {HIGH, 16}};
        for (int[] t : tos) {
            asked(Edges::crowded, "busy up to " + t[0], t[1], x -> x.busy(0, LOW, t[0]));
        }
        asked(Edges::onAtTheEnd, "busy up to 10498", 499, x -> x.busy(0, 0, 10498));
        asked(Edges::onAtTheEnd, "busy up to 10499", 500, x -> x.busy(0, 0, 10499));
        asked(Edges::onAtTheEnd, "busy from 10498 on", 1, x -> x.busy(0, 10498, HIGH));
        asked(Edges::onAtTheEnd, "busy from 10499 on", 0, x -> x.busy(0, 10499, HIGH));

        sentence("Throws `IllegalArgumentException` if from is above to");
        for (int time : new int[] {LOW, -1, 0, 10, 24, 30, HIGH}) {
            asked(Edges::crowded, "busy from and to " + time, 0, x -> x.busy(0, time, time));
        }
        int[][] turned = {{11, 10}, {25, 10}, {0, -1}, {HIGH, LOW}, {HIGH, HIGH - 1}, {LOW + 1, LOW}};
        for (int[] t : turned) {
            String call = "busy from " + t[0] + " to " + t[1];
            refused(Edges::crowded, call, ARGUMENT, x -> x.busy(0, t[0], t[1]));
            refused(Bookinghouse::new, call + " of a new house", ARGUMENT, x -> x.busy(0, t[0], t[1]));
        }
    }

    private void spans() {
        promise(24);
        sentence("Returns how many busy spans a house has: rows of busy times, one right behind the other,"
                + " each as long as can be");
        asked(Edges::crowded, "spans", 2, x -> x.spans(0));
        asked(stepping(5, 5), "spans of twelve right behind one another", 1, x -> x.spans(0));
        asked(stepping(6, 5), "spans of twelve with one time between", 12, x -> x.spans(0));
        asked(stepping(4, 5), "spans of twelve one over another", 1, x -> x.spans(0));
        asked(stepping(0, 5), "spans of twelve at one time", 1, x -> x.spans(0));
        asked(stepping(1, 1), "spans of twelve single times in a row", 1, x -> x.spans(0));
        asked(stepping(2, 1), "spans of twelve single times", 12, x -> x.spans(0));
        asked(after(x -> {
            x.book(0, 10, 10, 1);
            x.book(0, 12, 3, 1);
            x.run(0, 12);
        }), "spans of one within another", 1, x -> x.spans(0));
        houses("spans", (x, h) -> x.spans(h), (x, h) -> x.spans(h), 1, 1, 1, 1);
        sentence("Returns how many");
        asked(Bookinghouse::new, "spans of a new house", 0, x -> x.spans(0));
        asked(Edges::fourWait, "spans of those that wait", 0, x -> x.spans(0));
        asked(Edges::neverBusy, "spans of span 0", 0, x -> x.spans(0));
        asked(crowdedBackTo(9), "spans of none", 0, x -> x.spans(0));
        asked(Edges::spans120, "spans of 120", 120, x -> x.spans(0));
    }

    private void span() {
        promise(25);
        sentence("`what`: 'b' its first time, 'e' the time right behind its last one, 'g' the greatest crowd in it");
        spanIs(Edges::crowded, 0, 10, 25, 5);
        spanIs(Edges::crowded, 1, 30, 31, 9);
        spanIs(stepping(5, 5), 0, 10, 70, 1);
        spanIs(stepping(6, 5), 11, 76, 81, 1);
        spanIs(stepping(4, 5), 0, 10, 59, 2);
        spanIs(stepping(0, 5), 0, 10, 15, 12);
        sentence("Tells of a busy span");
        spanIs(Edges::onAtTheEnd, 0, 9999, 10499, 2);
        spanIs(Edges::all120, 0, 9999, 10499, 1080);
        spanIs(after(x -> {
            x.book(0, 0, 1, 9);
            x.book(0, 1, 1, 1);
            x.book(0, 3, 2, 4);
            x.run(0, 3);
        }), 0, 0, 2, 9);
        sentence("Returns that");
        spanIs(after(x -> {
            x.book(0, 10, 10, 1);
            x.book(0, 12, 3, 8);
            x.book(0, 16, 1, 6);
            x.run(0, 16);
        }), 0, 10, 20, 9);
        houses("span", (x, h) -> x.span(h, 0, 'e'), (x, h) -> x.span(h, -1, 'q'), 15, 17, 19, 21);
    }

    private void spanIs(Supplier<Bookinghouse> state, int place, int begin, int end, int greatest) {
        asked(state, "the first time of span " + place, begin, x -> x.span(0, place, 'b'));
        asked(state, "the time behind span " + place, end, x -> x.span(0, place, 'e'));
        asked(state, "the greatest crowd of span " + place, greatest, x -> x.span(0, place, 'g'));
    }

    private void spanEdges() {
        promise(25);
        sentence("`place`: its place, from 0, by time");
        asked(Edges::spans120, "the first of 120", 0, x -> x.span(0, 0, 'b'));
        asked(Edges::spans120, "the last of 120", 9 * 36 + 22, x -> x.span(0, 119, 'b'));
        asked(after(x -> {
            x.book(0, 20, 1, 1);
            x.book(0, 10, 1, 1);
            x.run(0, 20);
        }), "the first one by time", 10, x -> x.span(0, 0, 'b'));
        sentence("Throws `IllegalArgumentException` if what is none of these");
        for (int what = 0; what < 128; what++) {
            char letter = (char) what;
            if ("beg".indexOf(letter) < 0) {
                refused(Edges::crowded, "span with sign " + what, ARGUMENT, x -> x.span(0, 0, letter));
            }
        }
        for (char what : new char[] {'a', 'B', 0, 255, 'b' + 256, 'g' + 256, 65535}) {
            refused(Edges::crowded, "span with sign " + (int) what, ARGUMENT, x -> x.span(0, 1, what));
            refused(Edges::crowded, "span at no place with sign " + (int) what, ARGUMENT, x -> x.span(0, 2, what));
            refused(Edges::crowded, "span at -1 with sign " + (int) what, ARGUMENT, x -> x.span(0, -1, what));
            refused(Bookinghouse::new, "span of none with sign " + (int) what, ARGUMENT, x -> x.span(0, 0, what));
        }
        sentence("Throws `NoSuchElementException` if there is no such place");
        for (char what : new char[] {'b', 'e', 'g'}) {
            for (int place : new int[] {-1, 2, 3, 119, LOW, HIGH}) {
                refused(Edges::crowded, "span at " + place, ELEMENT, x -> x.span(0, place, what));
            }
            for (int place : new int[] {-1, 0, 1, LOW, HIGH}) {
                refused(Bookinghouse::new, "span of a new house at " + place, ELEMENT, x -> x.span(0, place, what));
                refused(Edges::neverBusy, "span of span 0 at " + place, ELEMENT, x -> x.span(0, place, what));
                refused(Edges::fourWait, "span of none at " + place, ELEMENT, x -> x.span(0, place, what));
                refused(Edges::crowded, "span of another house", ELEMENT, x -> x.span(1, place, what));
            }
            refused(Edges::spans120, "the 121st span", ELEMENT, x -> x.span(0, 120, what));
        }
    }

    private void free() {
        promise(26);
        sentence("Returns the least time, at a time or behind it, from which on so many times in a row are not busy");
        for (int from = 0; from < 34; from++) {
            for (int many = 1; many < 18; many++) {
                int begin = from;
                int row = many;
                int due = from;
                while (isBusyBetween(due, due + many)) {
                    due++;
                }
                answers(Edges::crowded, "free from " + from + " of " + many, due, x -> x.free(0, begin, row));
            }
        }
        sentence("Returns the least one");
        answers(gapOf(500), "free of 500 in a gap of 500", 1, x -> x.free(0, 0, 500));
        answers(gapOf(499), "free of 500 in a gap of 499", 501, x -> x.free(0, 0, 500));
        answers(gapOf(499), "free of 499 in a gap of 499", 1, x -> x.free(0, 0, 499));
        answers(gapOf(500), "free of 500 from within a gap of 500", 502, x -> x.free(0, 2, 500));
        answers(gapOf(500), "free of 499 from within a gap of 500", 2, x -> x.free(0, 2, 499));
        asked(Edges::fourWait, "free where four wait", 10, x -> x.free(0, 10, 500));
        asked(Edges::neverBusy, "free where span 0 came", 10, x -> x.free(0, 10, 500));
        int[][] among = {{1, 1}, {2, 23}, {13, 23}, {14, 9 * 36 + 23}, {500, 9 * 36 + 23}};
        for (int[] a : among) {
            asked(Edges::spans120, "free of " + a[0] + " among 120 spans", a[1], x -> x.free(0, 0, a[0]));
        }
        houses("free", (x, h) -> x.free(h, 12, 1), (x, h) -> x.free(h, -1, 0), 15, 17, 19, 12);
    }

    private static boolean isBusyBetween(int from, int to) {
        for (int time = from; time < to; time++) {
            if (time >= 10 && time < 25 || time == 30) {
                return true;
            }
        }
        return false;
    }

    private void freeRanges() {
        promise(26);
        sentence("`from`: the time, 0 to 20000");
        for (int from : new int[] {0, 1, 9999, 10499, 19999, 20000}) {
            asked(Bookinghouse::new, "free of a new house from " + from, from, x -> x.free(0, from, 1));
            asked(Edges::onAtTheEnd, "free from " + from, from == 9999 ? 10499 : from, x -> x.free(0, from, 1));
        }
        asked(Edges::onAtTheEnd, "free from the last busy time", 10499, x -> x.free(0, 10498, 1));
        asked(Edges::onAtTheEnd, "free of 500 up to the busy times", 9499, x -> x.free(0, 9499, 500));
        asked(Edges::onAtTheEnd, "free of 500 that would meet them", 10499, x -> x.free(0, 9500, 500));
        sentence("`many`: how many, 1 to 500");
        for (int many : new int[] {1, 2, 499, 500}) {
            asked(Bookinghouse::new, "free of " + many, 0, x -> x.free(0, 0, many));
            asked(Bookinghouse::new, "free of " + many + " from 20000", 20000, x -> x.free(0, 20000, many));
        }
        sentence("Throws `IllegalArgumentException` if from or many is out of range");
        for (int from : new int[] {-1, 20001, LOW, HIGH}) {
            for (int many : new int[] {1, 500, 0, 501}) {
                refused(Bookinghouse::new, "free from " + from, ARGUMENT, x -> x.free(0, from, many));
                refused(Edges::crowded, "free from " + from, ARGUMENT, x -> x.free(0, from, many));
            }
        }
        for (int many : new int[] {-1, 0, 501, LOW, HIGH}) {
            for (int from : new int[] {0, 20000, -1, 20001}) {
                refused(Bookinghouse::new, "free of " + many, ARGUMENT, x -> x.free(0, from, many));
                refused(Edges::crowded, "free of " + many, ARGUMENT, x -> x.free(0, from, many));
            }
        }
    }

    private static Supplier<Bookinghouse> crowdedBackTo(int time) {
        return () -> {
            Bookinghouse x = crowded();
            x.back(0, time);
            return x;
        };
    }

    /** Twelve came in house 0 in such steps from 10 on, with such spans and weight 1. */
    private static Supplier<Bookinghouse> stepping(int step, int span) {
        return after(x -> {
            x.series(0, 10, step, 12, span, 1);
            x.run(0, 200);
        });
    }

    /** House 0 is busy at 0 and once more, with so many times between. */
    private static Supplier<Bookinghouse> gapOf(int many) {
        return after(x -> {
            x.series(0, 0, 0, 1, 1, 1);
            x.series(0, many + 1, 0, 1, 1, 1);
            x.run(0, many + 1);
        });
    }
}
