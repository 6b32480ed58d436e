import java.util.NoSuchElementException;

/** Each promise of the document by itself: ordinary inputs, the edges that it names, wrong inputs. */
public final class PromiseTest {
    private static final Class<IndexOutOfBoundsException> INDEX = IndexOutOfBoundsException.class;
    private static final Class<IllegalArgumentException> ARGUMENT = IllegalArgumentException.class;
    private static final Class<IllegalStateException> STATE = IllegalStateException.class;
    private static final Class<NoSuchElementException> ELEMENT = NoSuchElementException.class;
    private static final Class<ArithmeticException> ARITHMETIC = ArithmeticException.class;
    private static final int LOW = Integer.MIN_VALUE;
    private static final int HIGH = Integer.MAX_VALUE;
    private static final int[] NO_HOUSES = {-1, 4, LOW, HIGH};

    private static final Check CHECK = new Check();

    public static void main(String[] args) {
        newObject();
        book();
        bookLimits();
        series();
        seriesLimits();
        callOff();
        callOffAll();
        put();
        join();
        joinLimits();
        part();
        partLimits();
        next();
        run();
        back();
        backLimits();
        asked();
        nextTime();
        about();
        crowdAndChange();
        greatest();
        busy();
        spans();
        free();
        loadAndMean();
        share();
        isQuiet();
        checksum();
        isSound();
        noSuchHouse();
        whatIsToldFirst();
        CHECK.end();
    }

    private static void same(String call, long got, long due) {
        CHECK.same(call, got, due);
    }

    private static void yes(String what, boolean holds) {
        CHECK.yes(what, holds);
    }

    private static void refused(Bookinghouse x, String call, Class<? extends RuntimeException> due, Runnable made) {
        CHECK.refused(x, call, due, made);
    }

    private static void waitingRow(Bookinghouse x, int house, int... due) {
        same("waiting(" + house + ")", x.waiting(house), due.length);
        for (int i = 0; i < due.length && i < x.waiting(house); i++) {
            same("waits(" + house + ", " + i + ")", x.waits(house, i), due[i]);
        }
    }

    private static void cameRow(Bookinghouse x, int house, int... due) {
        same("came(" + house + ")", x.came(house), due.length);
        for (int i = 0; i < due.length && i < x.came(house); i++) {
            same("cameAt(" + house + ", " + i + ")", x.cameAt(house, i), due[i]);
        }
    }

    private static void fill(Bookinghouse x, int house, int time, int many) {
        for (int i = 0; i < many; i += 12) {
            x.series(house, time, 0, Math.min(12, many - i), 1, 1);
        }
    }

    /** House 0 with a crowd of 3 at 10 to 14, 5 at 15 to 19, 2 at 20 to 24, and 9 at 30. */
    private static Bookinghouse crowded() {
        Bookinghouse x = new Bookinghouse();
        x.book(0, 10, 10, 3);
        x.book(0, 15, 10, 2);
        x.book(0, 30, 1, 9);
        x.book(0, 30, 0, 7);
        x.run(0, 30);
        return x;
    }

    private static void newObject() {
        Bookinghouse x = new Bookinghouse();
        for (int house = 0; house < 4; house++) {
            same("clock of a new house", x.clock(house), 0);
            waitingRow(x, house);
            cameRow(x, house);
            same("greatest of a new house", x.greatest(house), 0);
        }
        refused(x, "about(0, 't') of a new object", INDEX, () -> x.about(0, 't'));
        x.book(1, 5, 1, 1);
        same("waiting(1) of another object", new Bookinghouse().waiting(1), 0);
    }

    private static void book() {
        Bookinghouse x = new Bookinghouse();
        same("book", x.book(0, 9999, 500, 9), 0);
        same("book", x.book(3, 0, 0, 1), 1);
        same("book", x.book(0, 20, 7, 4), 2);
        same("book", x.book(0, 20, 7, 4), 3);
        waitingRow(x, 0, 2, 3, 0);
        waitingRow(x, 3, 1);
        int[][] wrong = {{-1, 1, 1}, {10000, 1, 1}, {1, -1, 1}, {1, 501, 1}, {1, 1, 0}, {1, 1, 10},
            {LOW, 1, 1}, {HIGH, 1, 1}, {1, LOW, 1}, {1, HIGH, 1}, {1, 1, LOW}, {1, 1, HIGH}};
        for (int[] w : wrong) {
            refused(x, "book with " + w[0] + " " + w[1] + " " + w[2], ARGUMENT, () -> x.book(0, w[0], w[1], w[2]));
            refused(x, "book in house 4", INDEX, () -> x.book(4, w[0], w[1], w[2]));
        }
        same("about(2, 't')", x.about(2, 't'), 20);
        same("about(2, 's')", x.about(2, 's'), 7);
        same("about(2, 'w')", x.about(2, 'w'), 4);
        same("about(2, 'h')", x.about(2, 'h'), 0);
        same("about(1, 'h')", x.about(1, 'h'), 3);
    }

    private static void bookLimits() {
        Bookinghouse x = new Bookinghouse();
        x.run(0, 50);
        refused(x, "book below the clock", STATE, () -> x.book(0, 49, 1, 1));
        refused(x, "book with weight 0 below the clock", ARGUMENT, () -> x.book(0, 49, 1, 0));
        same("book at the clock", x.book(0, 50, 1, 1), 0);
        fill(x, 0, 60, 46);
        same("the 48th that waits", x.book(0, 60, 1, 1), 47);
        refused(x, "book where 48 wait", STATE, () -> x.book(0, 60, 1, 1));
        refused(x, "book where 48 wait, and time -1", ARGUMENT, () -> x.book(0, -1, 1, 1));
        fill(x, 1, 60, 48);
        fill(x, 2, 60, 23);
        same("the 120th booking", x.book(3, 0, 1, 1), 119);
        refused(x, "the 121st booking", STATE, () -> x.book(3, 0, 1, 1));
        x.callOff(3, 119);
        refused(x, "the 121st booking, one called off", STATE, () -> x.book(3, 0, 1, 1));
    }

    private static void series() {
        Bookinghouse x = new Bookinghouse();
        same("series", x.series(0, 100, 10, 3, 4, 2), 0);
        same("series", x.series(0, 105, 10, 3, 5, 9), 3);
        waitingRow(x, 0, 0, 3, 1, 4, 2, 5);
        same("time of the third", x.about(2, 't'), 120);
        same("span of the third", x.about(2, 's'), 4);
        same("weight of the fifth", x.about(4, 'w'), 9);
        same("series of step 0", x.series(1, 9999, 0, 12, 500, 9), 6);
        same("series of step 500", x.series(2, 9499, 500, 2, 0, 1), 18);
        same("series of one", x.series(3, 9999, 500, 1, 0, 1), 20);
        int[][] wrong = {{5, -1, 1, 1, 1}, {5, 501, 1, 1, 1}, {5, 1, 0, 1, 1}, {5, 1, 13, 1, 1},
            {5, 1, 1, -1, 1}, {5, 1, 1, 501, 1}, {5, 1, 1, 1, 0}, {5, 1, 1, 1, 10}, {-1, 1, 2, 1, 1},
            {10000, 0, 1, 1, 1}, {9999, 1, 2, 1, 1}, {9500, 500, 2, 1, 1}, {HIGH, 500, 12, 1, 1},
            {LOW, 500, 12, 1, 1}, {5, HIGH, 12, 1, 1}, {5, LOW, 12, 1, 1}, {5, 500, HIGH, 1, 1},
            {5, 500, LOW, 1, 1}};
        for (int[] w : wrong) {
            refused(x, "series with " + w[0] + " " + w[1] + " " + w[2] + " " + w[3] + " " + w[4], ARGUMENT,
                    () -> x.series(0, w[0], w[1], w[2], w[3], w[4]));
        }
    }

    private static void seriesLimits() {
        Bookinghouse x = new Bookinghouse();
        x.run(0, 50);
        refused(x, "series below the clock", STATE, () -> x.series(0, 49, 5, 2, 1, 1));
        refused(x, "series below the clock, with many 0", ARGUMENT, () -> x.series(0, 49, 5, 0, 1, 1));
        fill(x, 0, 50, 40);
        refused(x, "series of 9 where 40 wait", STATE, () -> x.series(0, 60, 0, 9, 1, 1));
        same("series of 8 where 40 wait", x.series(0, 60, 0, 8, 1, 1), 40);
        refused(x, "series of 1 where 48 wait", STATE, () -> x.series(0, 60, 0, 1, 1, 1));
        fill(x, 1, 60, 48);
        fill(x, 2, 60, 16);
        refused(x, "series of 9 where 112 were made", STATE, () -> x.series(3, 60, 0, 9, 1, 1));
        same("series of 8 where 112 were made", x.series(3, 60, 0, 8, 1, 1), 112);
        refused(x, "series of 1 where 120 were made", STATE, () -> x.series(3, 60, 0, 1, 1, 1));
    }

    private static void callOff() {
        Bookinghouse x = new Bookinghouse();
        x.series(0, 10, 10, 4, 5, 1);
        yes("callOff(0, 2)", x.callOff(0, 2));
        waitingRow(x, 0, 0, 1, 3);
        same("about(2, 'x')", x.about(2, 'x'), 2);
        yes("not callOff(0, 2) again", !x.callOff(0, 2));
        yes("not callOff(1, 1)", !x.callOff(1, 1));
        x.next(0);
        yes("not callOff of one that came", !x.callOff(0, 0));
        for (int other : new int[] {-1, 4, 120, LOW, HIGH}) {
            yes("not callOff(0, " + other + ")", !x.callOff(0, other));
        }
        waitingRow(x, 0, 1, 3);
        cameRow(x, 0, 0);
        same("clock behind callOff", x.clock(0), 10);
    }

    private static void callOffAll() {
        Bookinghouse x = new Bookinghouse();
        x.series(0, 10, 10, 6, 5, 1);
        x.series(1, 10, 10, 2, 5, 1);
        same("callOffAll(0, 20, 40)", x.callOffAll(0, 20, 40), 2);
        waitingRow(x, 0, 0, 3, 4, 5);
        waitingRow(x, 1, 6, 7);
        same("about(1, 'x')", x.about(1, 'x'), 2);
        same("about(2, 'x')", x.about(2, 'x'), 2);
        same("about(3, 'x')", x.about(3, 'x'), 0);
        same("callOffAll(0, 40, 40)", x.callOffAll(0, 40, 40), 0);
        refused(x, "callOffAll(0, 41, 40)", ARGUMENT, () -> x.callOffAll(0, 41, 40));
        refused(x, "callOffAll(0, high, low)", ARGUMENT, () -> x.callOffAll(0, HIGH, LOW));
        same("callOffAll of one that came", x.run(0, 10) + x.callOffAll(0, LOW, 11), 1);
        same("callOffAll(0, low, high)", x.callOffAll(0, LOW, HIGH), 3);
        waitingRow(x, 0);
        cameRow(x, 0, 0);
        same("callOffAll(2, low, high)", x.callOffAll(2, LOW, HIGH), 0);
    }

    private static void put() {
        Bookinghouse x = new Bookinghouse();
        x.series(0, 10, 10, 3, 5, 1);
        same("put(0, 0, 30)", x.put(0, 0, 30), 10);
        waitingRow(x, 0, 1, 0, 2);
        same("put(0, 0, 30) again", x.put(0, 0, 30), 30);
        waitingRow(x, 0, 1, 0, 2);
        same("put(0, 2, 0)", x.put(0, 2, 0), 30);
        same("put(0, 1, 9999)", x.put(0, 1, 9999), 20);
        waitingRow(x, 0, 2, 0, 1);
        same("about(1, 't')", x.about(1, 't'), 9999);
        same("next", x.next(0), 2);
        x.run(0, 25);
        refused(x, "put below the clock", STATE, () -> x.put(0, 0, 24));
        same("put at the clock", x.put(0, 0, 25), 30);
        for (int time : new int[] {-1, 10000, LOW, HIGH}) {
            refused(x, "put to " + time, ARGUMENT, () -> x.put(0, 0, time));
            refused(x, "put of none to " + time, ARGUMENT, () -> x.put(0, 77, time));
        }
        for (int number : new int[] {-1, 2, 3, 120, LOW, HIGH}) {
            refused(x, "put of " + number, ELEMENT, () -> x.put(0, number, 30));
            refused(x, "put of " + number + " below the clock", ELEMENT, () -> x.put(0, number, 3));
        }
        refused(x, "put in another house", ELEMENT, () -> x.put(1, 0, 30));
        x.callOff(0, 0);
        refused(x, "put of one called off", ELEMENT, () -> x.put(0, 0, 30));
        same("clock behind put", x.clock(0), 25);
    }

    private static void join() {
        Bookinghouse x = new Bookinghouse();
        x.series(0, 10, 10, 3, 5, 1);
        x.series(1, 10, 5, 3, 5, 1);
        x.book(1, 3, 2, 2);
        x.next(1);
        same("join(0, 1)", x.join(0, 1), 3);
        waitingRow(x, 0, 0, 3, 4, 1, 5, 2);
        waitingRow(x, 1);
        cameRow(x, 1, 6);
        cameRow(x, 0);
        same("clock(0)", x.clock(0), 0);
        same("clock(1)", x.clock(1), 3);
        same("crowd(1, 4)", x.crowd(1, 4), 2);
        same("about(4, 'h')", x.about(4, 'h'), 0);
        same("about(6, 'h')", x.about(6, 'h'), 1);
        same("join(0, 1) of none", x.join(0, 1), 0);
        refused(x, "join(0, 0)", STATE, () -> x.join(0, 0));
        refused(x, "join(2, 2)", STATE, () -> x.join(2, 2));
        for (int none : NO_HOUSES) {
            refused(x, "join(0, " + none + ")", INDEX, () -> x.join(0, none));
            refused(x, "join(" + none + ", 0)", INDEX, () -> x.join(none, 0));
            refused(x, "join of no house with itself", INDEX, () -> x.join(none, none));
        }
    }

    private static void joinLimits() {
        Bookinghouse x = new Bookinghouse();
        x.series(1, 10, 10, 2, 5, 1);
        x.run(0, 11);
        refused(x, "join below the clock", STATE, () -> x.join(0, 1));
        x.back(0, 10);
        same("join at the clock", x.join(0, 1), 2);
        x.run(3, 9999);
        same("join of none to a late clock", x.join(3, 1), 0);
        fill(x, 0, 20, 38);
        fill(x, 2, 20, 9);
        refused(x, "join of 40 and 9", STATE, () -> x.join(0, 2));
        refused(x, "join of 9 and 40", STATE, () -> x.join(2, 0));
        x.next(2);
        same("join of 40 and 8", x.join(0, 2), 8);
        same("waiting(0)", x.waiting(0), 48);
    }

    private static void part() {
        Bookinghouse x = new Bookinghouse();
        x.series(0, 10, 10, 5, 5, 1);
        x.series(1, 15, 10, 2, 5, 1);
        x.next(0);
        same("part(0, 1, 30)", x.part(0, 1, 30), 3);
        waitingRow(x, 0, 1);
        waitingRow(x, 1, 5, 6, 2, 3, 4);
        cameRow(x, 0, 0);
        same("clock(0)", x.clock(0), 10);
        same("clock(1)", x.clock(1), 0);
        same("about(2, 'h')", x.about(2, 'h'), 1);
        same("about(1, 'h')", x.about(1, 'h'), 0);
        same("part(0, 1, 21)", x.part(0, 1, 21), 0);
        same("part(0, 2, high)", x.part(0, 2, HIGH), 0);
        same("part(1, 2, low)", x.part(1, 2, LOW), 5);
        waitingRow(x, 2, 5, 6, 2, 3, 4);
        refused(x, "part(2, 2, 0)", STATE, () -> x.part(2, 2, 0));
        refused(x, "part(2, 2, high)", STATE, () -> x.part(2, 2, HIGH));
        for (int none : NO_HOUSES) {
            refused(x, "part(0, " + none + ", 0)", INDEX, () -> x.part(0, none, 0));
            refused(x, "part(" + none + ", 0, 0)", INDEX, () -> x.part(none, 0, 0));
            refused(x, "part of no house with itself", INDEX, () -> x.part(none, none, 0));
        }
    }

    private static void partLimits() {
        Bookinghouse x = new Bookinghouse();
        x.series(0, 10, 10, 3, 5, 1);
        x.run(1, 21);
        refused(x, "part below the other clock", STATE, () -> x.part(0, 1, 20));
        x.back(1, 20);
        same("part at the other clock", x.part(0, 1, 11), 2);
        fill(x, 1, 20, 38);
        fill(x, 2, 30, 9);
        x.series(2, 25, 0, 3, 1, 1);
        refused(x, "part of 9 to 40", STATE, () -> x.part(2, 1, 30));
        refused(x, "part of 12 to 40", STATE, () -> x.part(2, 1, 0));
        x.callOffAll(1, 20, 21);
        fill(x, 1, 20, 38);
        same("part of 9 to 39", x.part(2, 1, 30), 9);
        same("waiting(1)", x.waiting(1), 48);
        same("part of none to 48", x.part(2, 1, 30), 0);
    }

    private static void next() {
        Bookinghouse x = new Bookinghouse();
        x.book(0, 20, 5, 1);
        x.book(0, 20, 5, 2);
        x.book(0, 10, 5, 3);
        same("next", x.next(0), 2);
        same("clock", x.clock(0), 10);
        same("next", x.next(0), 0);
        same("clock", x.clock(0), 20);
        waitingRow(x, 0, 1);
        cameRow(x, 0, 2, 0);
        same("next", x.next(0), 1);
        refused(x, "next of none", ELEMENT, () -> x.next(0));
        refused(x, "next of another house", ELEMENT, () -> x.next(1));
        same("clock of another house", x.clock(1), 0);
        same("about(1, 'x')", x.about(1, 'x'), 1);
        same("crowd(0, 20)", x.crowd(0, 20), 3);
    }

    private static void run() {
        Bookinghouse x = new Bookinghouse();
        x.book(0, 20, 5, 1);
        x.book(0, 20, 5, 2);
        x.book(0, 10, 5, 3);
        x.book(0, 21, 5, 3);
        same("run(0, 9)", x.run(0, 9), 0);
        same("clock", x.clock(0), 9);
        same("run(0, 20)", x.run(0, 20), 3);
        cameRow(x, 0, 2, 0, 1);
        waitingRow(x, 0, 3);
        same("clock", x.clock(0), 20);
        same("run(0, 20) again", x.run(0, 20), 0);
        refused(x, "run below the clock", STATE, () -> x.run(0, 19));
        for (int time : new int[] {-1, 10000, LOW, HIGH}) {
            refused(x, "run to " + time, ARGUMENT, () -> x.run(0, time));
        }
        same("run(0, 9999)", x.run(0, 9999), 1);
        same("clock", x.clock(0), 9999);
        same("clock of another house", x.clock(2), 0);
    }

    private static void back() {
        Bookinghouse x = new Bookinghouse();
        x.series(0, 10, 10, 4, 5, 2);
        x.callOff(0, 2);
        x.run(0, 50);
        same("back(0, 50)", x.back(0, 50), 0);
        same("back(0, 20)", x.back(0, 20), 1);
        same("clock", x.clock(0), 20);
        waitingRow(x, 0, 3);
        cameRow(x, 0, 0, 1);
        same("about(3, 'x')", x.about(3, 'x'), 0);
        same("about(2, 'x')", x.about(2, 'x'), 2);
        same("crowd(0, 40)", x.crowd(0, 40), 0);
        same("crowd(0, 20)", x.crowd(0, 20), 2);
        refused(x, "back above the clock", STATE, () -> x.back(0, 21));
        for (int time : new int[] {-1, 10000, LOW, HIGH}) {
            refused(x, "back to " + time, ARGUMENT, () -> x.back(0, time));
        }
        same("book at an earlier time", x.book(0, 20, 5, 1), 4);
        waitingRow(x, 0, 4, 3);
        same("back(0, 0)", x.back(0, 0), 2);
        waitingRow(x, 0, 0, 1, 4, 3);
        same("greatest(0)", x.greatest(0), 0);
        x.book(1, 0, 4, 4);
        x.run(1, 5);
        same("back to 0 with one that came at 0", x.back(1, 0), 0);
        cameRow(x, 1, 5);
    }

    private static void backLimits() {
        Bookinghouse x = new Bookinghouse();
        fill(x, 0, 10, 9);
        x.run(0, 10);
        fill(x, 0, 10, 40);
        refused(x, "back to 9 and 40 that wait", STATE, () -> x.back(0, 9));
        same("back(0, 10)", x.back(0, 10), 0);
        x.callOff(0, 48);
        same("back to 9 and 39 that wait", x.back(0, 9), 9);
        same("waiting(0)", x.waiting(0), 48);
        waitingRowIsByNumber(x);
    }

    private static void waitingRowIsByNumber(Bookinghouse x) {
        for (int i = 0; i < 48; i++) {
            same("waits(0, " + i + ")", x.waits(0, i), i);
        }
    }

    private static void asked() {
        Bookinghouse x = new Bookinghouse();
        x.series(2, 10, 10, 3, 5, 2);
        x.run(2, 25);
        same("clock(2)", x.clock(2), 25);
        same("waiting(2)", x.waiting(2), 1);
        same("came(2)", x.came(2), 2);
        same("waits(2, 0)", x.waits(2, 0), 2);
        same("cameAt(2, 0)", x.cameAt(2, 0), 0);
        same("cameAt(2, 1)", x.cameAt(2, 1), 1);
        same("waiting(1)", x.waiting(1), 0);
        same("came(1)", x.came(1), 0);
        for (int place : new int[] {-1, 1, 48, LOW, HIGH}) {
            refused(x, "waits(2, " + place + ")", ELEMENT, () -> x.waits(2, place));
        }
        for (int place : new int[] {-1, 2, 120, LOW, HIGH}) {
            refused(x, "cameAt(2, " + place + ")", ELEMENT, () -> x.cameAt(2, place));
        }
        x.book(2, 25, 1, 1);
        x.put(2, 2, 25);
        x.callOff(2, 2);
        x.back(2, 10);
        x.put(2, 1, 26);
        x.run(2, 30);
        cameRow(x, 2, 0, 3, 1);
    }

    private static void nextTime() {
        Bookinghouse x = new Bookinghouse();
        x.series(0, 10, 10, 3, 5, 2);
        same("nextTime(0, low)", x.nextTime(0, LOW), 10);
        same("nextTime(0, 10)", x.nextTime(0, 10), 10);
        same("nextTime(0, 11)", x.nextTime(0, 11), 20);
        same("nextTime(0, 30)", x.nextTime(0, 30), 30);
        refused(x, "nextTime(0, 31)", ELEMENT, () -> x.nextTime(0, 31));
        refused(x, "nextTime(0, high)", ELEMENT, () -> x.nextTime(0, HIGH));
        refused(x, "nextTime(1, 0)", ELEMENT, () -> x.nextTime(1, 0));
        x.next(0);
        same("nextTime(0, 0)", x.nextTime(0, 0), 20);
    }

    private static void about() {
        Bookinghouse x = new Bookinghouse();
        x.book(2, 100, 50, 9);
        x.book(3, 200, 0, 1);
        x.book(1, 300, 500, 5);
        char[] what = {'t', 's', 'w', 'h', 'x'};
        long[][] due = {{100, 50, 9, 2, 1}, {200, 0, 1, 3, 2}, {300, 500, 5, 0, 0}};
        x.next(2);
        x.callOff(3, 1);
        x.join(0, 1);
        for (int number = 0; number < 3; number++) {
            for (int i = 0; i < 5; i++) {
                same("about(" + number + ", '" + what[i] + "')", x.about(number, what[i]), due[number][i]);
            }
        }
        for (int number : new int[] {-1, 3, 120, LOW, HIGH}) {
            refused(x, "about(" + number + ", 't')", INDEX, () -> x.about(number, 't'));
            refused(x, "about(" + number + ", '?')", INDEX, () -> x.about(number, '?'));
        }
        for (char other : new char[] {(char) 0, 'T', 'b', 'y', (char) 65535}) {
            refused(x, "about(0, " + (int) other + ")", ARGUMENT, () -> x.about(0, other));
        }
    }

    private static void crowdAndChange() {
        Bookinghouse x = crowded();
        int[][] due = {{9, 0, 0}, {10, 3, 3}, {11, 3, 0}, {14, 3, 0}, {15, 5, 2}, {19, 5, 0}, {20, 2, -3},
            {24, 2, 0}, {25, 0, -2}, {30, 9, 9}, {31, 0, -9}, {-1, 0, 0}, {LOW, 0, 0}, {HIGH, 0, 0}};
        for (int[] d : due) {
            same("crowd(0, " + d[0] + ")", x.crowd(0, d[0]), d[1]);
            same("change(0, " + d[0] + ")", x.change(0, d[0]), d[2]);
            same("crowd(1, " + d[0] + ")", x.crowd(1, d[0]), 0);
            same("change(1, " + d[0] + ")", x.change(1, d[0]), 0);
        }
        Bookinghouse y = new Bookinghouse();
        y.book(0, 10, 5, 4);
        y.book(0, 15, 5, 4);
        same("crowd of one that waits", y.crowd(0, 10), 0);
        y.run(0, 15);
        same("change where one ends and one like it begins", y.change(0, 15), 0);
        same("crowd there", y.crowd(0, 15), 4);
        same("crowd behind the clock", y.crowd(0, 19), 4);
        same("crowd at the end", y.crowd(0, 20), 0);
        y.back(0, 14);
        same("change there, gone back", y.change(0, 15), -4);
        Bookinghouse z = new Bookinghouse();
        z.book(0, 9999, 500, 2);
        z.next(0);
        same("crowd(0, 10498)", z.crowd(0, 10498), 2);
        same("change(0, 10499)", z.change(0, 10499), -2);
    }

    private static void greatest() {
        Bookinghouse x = crowded();
        same("greatest(0)", x.greatest(0), 9);
        same("greatestFrom(0)", x.greatestFrom(0), 30);
        x.back(0, 15);
        same("greatest(0)", x.greatest(0), 5);
        same("greatestFrom(0)", x.greatestFrom(0), 15);
        same("greatest(1)", x.greatest(1), 0);
        refused(x, "greatestFrom(1)", ELEMENT, () -> x.greatestFrom(1));
        x.book(1, 0, 0, 9);
        x.book(1, 0, 3, 2);
        x.book(1, 8, 3, 2);
        x.run(1, 0);
        same("greatestFrom(1) at 0", x.greatestFrom(1), 0);
        x.run(1, 10);
        same("greatestFrom(1) is the first one", x.greatestFrom(1), 0);
        x.book(2, 7, 0, 9);
        x.next(2);
        same("greatest(2) of span 0", x.greatest(2), 0);
        refused(x, "greatestFrom(2) of span 0", ELEMENT, () -> x.greatestFrom(2));
    }

    private static void busy() {
        Bookinghouse x = crowded();
        int[][] due = {{0, 100, 16}, {LOW, HIGH, 16}, {10, 25, 15}, {10, 10, 0}, {9, 11, 1}, {10, 11, 1},
            {24, 31, 2}, {25, 30, 0}, {12, 17, 5}, {30, 31, 1}, {31, HIGH, 0}, {LOW, 10, 0}, {LOW, LOW, 0},
            {HIGH, HIGH, 0}};
        for (int[] d : due) {
            same("busy(0, " + d[0] + ", " + d[1] + ")", x.busy(0, d[0], d[1]), d[2]);
            same("busy(1, " + d[0] + ", " + d[1] + ")", x.busy(1, d[0], d[1]), 0);
        }
        refused(x, "busy(0, 11, 10)", ARGUMENT, () -> x.busy(0, 11, 10));
        refused(x, "busy(0, high, low)", ARGUMENT, () -> x.busy(0, HIGH, LOW));
    }

    private static void spans() {
        Bookinghouse x = crowded();
        same("spans(0)", x.spans(0), 2);
        same("spans(1)", x.spans(1), 0);
        int[][] due = {{10, 25, 5}, {30, 31, 9}};
        for (int place = 0; place < 2; place++) {
            same("span b", x.span(0, place, 'b'), due[place][0]);
            same("span e", x.span(0, place, 'e'), due[place][1]);
            same("span g", x.span(0, place, 'g'), due[place][2]);
        }
        for (int place : new int[] {-1, 2, 240, LOW, HIGH}) {
            refused(x, "span(0, " + place + ", 'b')", ELEMENT, () -> x.span(0, place, 'b'));
            refused(x, "span(0, " + place + ", '?')", ARGUMENT, () -> x.span(0, place, '?'));
        }
        refused(x, "span(1, 0, 'g')", ELEMENT, () -> x.span(1, 0, 'g'));
        for (char other : new char[] {(char) 0, 'B', 't', 'x', (char) 65535}) {
            refused(x, "span(0, 0, " + (int) other + ")", ARGUMENT, () -> x.span(0, 0, other));
        }
        Bookinghouse y = new Bookinghouse();
        y.series(0, 10, 5, 12, 5, 3);
        y.series(0, 70, 5, 12, 5, 4);
        y.series(0, 131, 2, 12, 1, 1);
        y.run(0, 200);
        same("spans right behind one another are one", y.spans(0), 13);
        same("its end", y.span(0, 0, 'e'), 130);
        same("its greatest", y.span(0, 0, 'g'), 4);
        same("the last one's begin", y.span(0, 12, 'b'), 153);
    }

    private static void free() {
        Bookinghouse x = crowded();
        int[][] due = {{0, 10, 0}, {0, 11, 31}, {1, 10, 31}, {1, 9, 1}, {10, 1, 25}, {10, 5, 25}, {10, 6, 31},
            {26, 4, 26}, {26, 5, 31}, {29, 1, 29}, {30, 1, 31}, {24, 1, 25}, {25, 1, 25}, {20000, 500, 20000},
            {17, 500, 31}, {31, 500, 31}};
        for (int[] d : due) {
            same("free(0, " + d[0] + ", " + d[1] + ")", x.free(0, d[0], d[1]), d[2]);
            same("free(1, " + d[0] + ", " + d[1] + ")", x.free(1, d[0], d[1]), d[0]);
        }
        int[][] wrong = {{-1, 1}, {20001, 1}, {0, 0}, {0, 501}, {LOW, 1}, {HIGH, 1}, {0, LOW}, {0, HIGH}};
        for (int[] w : wrong) {
            refused(x, "free(0, " + w[0] + ", " + w[1] + ")", ARGUMENT, () -> x.free(0, w[0], w[1]));
        }
    }

    private static void loadAndMean() {
        Bookinghouse x = crowded();
        same("load(0)", x.load(0), 59);
        CHECK.same("mean(0)", x.mean(0), 59.0 / 16.0);
        same("load(1)", x.load(1), 0);
        refused(x, "mean(1)", ARITHMETIC, () -> x.mean(1));
        x.book(1, 3, 0, 9);
        x.next(1);
        refused(x, "mean(1) of span 0", ARITHMETIC, () -> x.mean(1));
        x.book(2, 3, 3, 1);
        x.book(2, 3, 1, 1);
        refused(x, "mean(2) of those that wait", ARITHMETIC, () -> x.mean(2));
        x.run(2, 3);
        CHECK.same("mean(2)", x.mean(2), 4.0 / 3.0);
        Bookinghouse y = new Bookinghouse();
        for (int i = 0; i < 10; i++) {
            y.series(0, 9999, 0, 12, 500, 9);
            y.run(0, 9999);
        }
        same("the greatest load", y.load(0), 540000);
        CHECK.same("the greatest mean", y.mean(0), 1080.0);
    }

    private static void share() {
        Bookinghouse x = new Bookinghouse();
        refused(x, "share(0) of none", ARITHMETIC, () -> x.share(0));
        x.series(0, 10, 10, 3, 5, 2);
        CHECK.same("share(0) of none that came", x.share(0), 0.0);
        x.next(0);
        CHECK.same("share(0)", (double) x.share(0), (double) (1.0f / 3.0f));
        x.run(0, 100);
        CHECK.same("share(0) of all that came", x.share(0), 1.0);
        x.book(1, 5, 5, 5);
        x.callOff(1, 3);
        refused(x, "share(1) of one called off", ARITHMETIC, () -> x.share(1));
    }

    private static void isQuiet() {
        Bookinghouse x = new Bookinghouse();
        yes("a new house is quiet", x.isQuiet(0));
        x.book(0, 10, 5, 1);
        yes("not quiet while one waits", !x.isQuiet(0));
        yes("another house is quiet", x.isQuiet(1));
        x.run(0, 10);
        yes("not quiet when it is on", !x.isQuiet(0));
        x.run(0, 14);
        yes("not quiet at its last time", !x.isQuiet(0));
        x.run(0, 15);
        yes("quiet right behind it", x.isQuiet(0));
        x.back(0, 12);
        yes("not quiet again", !x.isQuiet(0));
        x.back(0, 9);
        x.callOff(0, 0);
        yes("quiet when it is called off", x.isQuiet(0));
        x.book(2, 0, 0, 1);
        yes("not quiet while one of span 0 waits", !x.isQuiet(2));
        x.next(2);
        yes("quiet with span 0", x.isQuiet(2));
    }

    private static long sumOf(long... parts) {
        long sum = 7;
        for (long part : parts) {
            sum = 31 * sum + part;
        }
        return sum;
    }

    private static void checksum() {
        Bookinghouse x = new Bookinghouse();
        same("checksum of a new object", x.checksum(), sumOf(0, 0, 0, 0, 0, 0, 0, 0, 0, 0, 0, 0));
        x.book(1, 20, 5, 3);
        x.book(1, 10, 10, 3);
        x.book(1, 30, 5, 4);
        x.book(3, 5, 0, 9);
        x.book(3, 6, 1, 9);
        same("checksum of those that wait", x.checksum(),
                sumOf(0, 0, 0, 0, 3, 1, 0, 2, 0, 0, 0, 0, 0, 2, 3, 4, 0));
        x.run(1, 25);
        x.next(3);
        same("checksum without a change of 0", x.checksum(),
                sumOf(0, 0, 0, 25, 1, 2, 2, 1, 0, 10, 3, 25, -3, 0, 0, 0, 5, 1, 4, 1, 3));
        x.run(1, 30);
        same("checksum of changes below 0", x.checksum(),
                sumOf(0, 0, 0, 30, 0, 3, 1, 0, 2, 10, 3, 25, -3, 30, 4, 35, -4, 0, 0, 0, 5, 1, 4, 1, 3));
    }

    private static void isSound() {
        Bookinghouse x = new Bookinghouse();
        yes("a new object is sound", x.isSound());
        fill(x, 0, 10, 48);
        fill(x, 1, 10, 48);
        fill(x, 2, 10, 24);
        yes("a full object is sound", x.isSound());
        x.run(0, 10);
        x.join(0, 1);
        x.put(0, 60, 11);
        x.callOffAll(2, 0, 20);
        x.part(0, 3, 11);
        yes("sound when houses were joined and parted", x.isSound());
        x.next(3);
        x.back(3, 0);
        x.next(3);
        yes("sound when one came again", x.isSound());
        Bookinghouse y = new Bookinghouse();
        for (int i = 0; i < 10; i++) {
            y.series(0, 9999 - 36 + 4 * i, 0, 12, 100 + i, 9);
            y.run(0, 9999 - 36 + 4 * i);
        }
        yes("sound with 120 that came", y.isSound());
    }

    private static void noSuchHouse() {
        Bookinghouse x = crowded();
        for (int h : NO_HOUSES) {
            String of = " of house " + h;
            refused(x, "book" + of, INDEX, () -> x.book(h, -1, -1, -1));
            refused(x, "series" + of, INDEX, () -> x.series(h, -1, -1, -1, -1, -1));
            refused(x, "callOff" + of, INDEX, () -> x.callOff(h, 0));
            refused(x, "callOffAll" + of, INDEX, () -> x.callOffAll(h, 2, 1));
            refused(x, "put" + of, INDEX, () -> x.put(h, -1, -1));
            refused(x, "next" + of, INDEX, () -> x.next(h));
            refused(x, "run" + of, INDEX, () -> x.run(h, -1));
            refused(x, "back" + of, INDEX, () -> x.back(h, -1));
            refused(x, "clock" + of, INDEX, () -> x.clock(h));
            refused(x, "waiting" + of, INDEX, () -> x.waiting(h));
            refused(x, "came" + of, INDEX, () -> x.came(h));
            refused(x, "waits" + of, INDEX, () -> x.waits(h, -1));
            refused(x, "cameAt" + of, INDEX, () -> x.cameAt(h, -1));
            refused(x, "nextTime" + of, INDEX, () -> x.nextTime(h, HIGH));
            refused(x, "crowd" + of, INDEX, () -> x.crowd(h, 0));
            refused(x, "change" + of, INDEX, () -> x.change(h, 0));
            refused(x, "greatest" + of, INDEX, () -> x.greatest(h));
            refused(x, "greatestFrom" + of, INDEX, () -> x.greatestFrom(h));
            refused(x, "busy" + of, INDEX, () -> x.busy(h, 2, 1));
            refused(x, "spans" + of, INDEX, () -> x.spans(h));
            refused(x, "span" + of, INDEX, () -> x.span(h, -1, '?'));
            refused(x, "free" + of, INDEX, () -> x.free(h, -1, -1));
            refused(x, "load" + of, INDEX, () -> x.load(h));
            refused(x, "mean" + of, INDEX, () -> x.mean(h));
            refused(x, "share" + of, INDEX, () -> x.share(h));
            refused(x, "isQuiet" + of, INDEX, () -> x.isQuiet(h));
        }
    }

    /** If none waits at the time of the clock, going back and running again leaves the same. */
    private static void whatIsToldFirst() {
        Bookinghouse x = crowded();
        long before = x.checksum();
        for (int time = 29; time >= 0; time--) {
            x.back(0, time);
            x.run(0, 30);
            same("checksum, back at " + time + " and run again", x.checksum(), before);
        }
    }
}
