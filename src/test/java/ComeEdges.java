import java.util.function.Supplier;

/** The sentences of the promises 9 to 18: what comes, and what is asked. */
final class ComeEdges extends Edges {
    ComeEdges(Check check) {
        super(check);
    }

    void all() {
        each(this::next, this::nextRefused, this::run, this::runTimes, this::back, this::backTimes,
                this::backRefused, this::clock, this::waiting, this::came, this::waits, this::cameAt,
                this::nextTime, this::about, this::aboutEdges);
    }

    private void next() {
        promise(9);
        sentence("Lets the first booking that waits come");
        Bookinghouse x = new Bookinghouse();
        x.book(0, 20, 5, 1);
        x.book(0, 20, 5, 2);
        x.book(0, 10, 5, 3);
        x.book(0, 20, 0, 4);
        int[][] due = {{2, 10, 3, 3}, {0, 20, 2, 1}, {1, 20, 1, 3}, {3, 20, 0, 3}};
        for (int[] d : due) {
            same("next", x.next(0), d[0]);
            same("the clock", x.clock(0), d[1]);
            same("waiting", x.waiting(0), d[2]);
            same("the crowd", x.crowd(0, d[1]), d[3]);
            same("what it is", x.about(d[0], 'x'), 1);
        }
        cameRow(x, 0, 2, 0, 1, 3);
        same("the clock of another house", x.clock(1), 0);
        houses("next", (y, h) -> y.next(h), (y, h) -> y.next(h), 1, 3, 5, 7);

        sentence("Returns its number");
        answers(after(y -> y.book(3, 0, 1, 1)), "next of the first number at 0", 0, y -> y.next(3));
        answers(after(y -> {
            fillAll(y, 120);
            y.put(2, 119, 9999);
            y.callOffAll(2, 60, 61);
        }), "next of the last number at 9999", 119, y -> y.next(2));
        answers(after(y -> {
            y.series(0, 10, 10, 2, 1, 1);
            y.run(0, 15);
        }), "next behind the clock", 1, y -> y.next(0));
        answers(after(y -> {
            y.run(0, 15);
            y.book(0, 15, 1, 1);
        }), "next at the clock", 0, y -> y.next(0));
    }

    private void nextRefused() {
        promise(9);
        sentence("Throws `NoSuchElementException` if none waits");
        for (int h = 0; h < 4; h++) {
            int house = h;
            refused(Bookinghouse::new, "next of a new house", ELEMENT, x -> x.next(house));
        }
        refused(oneCame(), "next where all came", ELEMENT, x -> x.next(0));
        refused(oneCame(), "next where one waits in another house", ELEMENT, x -> x.next(1));
        refused(after(x -> {
            x.book(0, 10, 5, 1);
            x.callOff(0, 0);
        }), "next of one called off", ELEMENT, x -> x.next(0));
        refused(after(x -> {
            x.book(0, 10, 5, 1);
            x.join(1, 0);
        }), "next where one was joined away", ELEMENT, x -> x.next(0));
        answers(after(x -> {
            x.book(0, 10, 5, 1);
            x.next(0);
            x.back(0, 9);
        }), "next of one that was brought back", 0, x -> x.next(0));
    }

    private void run() {
        promise(10);
        sentence("Lets all bookings come that wait at a time or ahead of it, one by one; then the clock becomes the"
                + " time");
        int[][] due = {{0, 0}, {9, 0}, {10, 1}, {11, 1}, {19, 1}, {20, 2}, {39, 3}, {40, 4}, {41, 4}, {9999, 4}};
        for (int[] d : due) {
            Bookinghouse x = fourWait();
            same("run to " + d[0], x.run(0, d[0]), d[1]);
            same("the clock", x.clock(0), d[0]);
            same("the clock of another house", x.clock(1), 0);
            same("waiting", x.waiting(0), 4 - d[1]);
            same("came", x.came(0), d[1]);
            for (int number = 0; number < 4; number++) {
                same("what it is", x.about(number, 'x'), number < d[1] ? 1 : 0);
                same("the crowd at its time", x.crowd(0, 10 + 10 * number), number < d[1] ? 1 : 0);
            }
        }
        Bookinghouse y = new Bookinghouse();
        y.book(0, 20, 5, 1);
        y.book(0, 10, 5, 1);
        y.book(0, 20, 5, 1);
        y.book(0, 10, 5, 1);
        y.run(0, 20);
        cameRow(y, 0, 1, 3, 0, 2);
        houses("run", (z, h) -> z.run(h, 22), (z, h) -> z.run(h, -1), 1, 1, 1, 0);

        sentence("Returns how many came");
        answers(Bookinghouse::new, "run of none", 0, z -> z.run(0, 9999));
        answers(after(z -> fill(z, 0, 60, 48)), "run of 48", 48, z -> z.run(0, 60));
        asked(oneCame(), "run of what came to the clock", 0, z -> z.run(0, 10));
    }

    private void runTimes() {
        promise(10);
        sentence("`time`: the time");
        for (int time : new int[] {0, 1, 9998, 9999}) {
            answers(Bookinghouse::new, "the clock behind run to " + time, time, x -> {
                x.run(0, time);
                return x.clock(0);
            });
            answers(after(x -> x.book(0, time, 1, 1)), "run to one at " + time, 1, x -> x.run(0, time));
        }
        sentence("Throws `IllegalArgumentException` if time is out of range");
        for (int time : NO_TIMES) {
            refused(Bookinghouse::new, "run of a new house to " + time, ARGUMENT, x -> x.run(0, time));
            refused(Edges::fourWait, "run to " + time, ARGUMENT, x -> x.run(0, time));
            refused(Edges::ready, "run to " + time + ", the clock is 10", ARGUMENT, x -> x.run(0, time));
        }
        sentence("Throws `IllegalStateException` if the time is below the clock");
        refused(Edges::ready, "run to one below the clock", STATE, x -> x.run(0, 9));
        refused(Edges::ready, "run to 0, the clock is 10", STATE, x -> x.run(0, 0));
        answers(Edges::ready, "run to the clock", 0, x -> x.run(0, 10));
        answers(Edges::ready, "run to one above the clock", 0, x -> x.run(0, 11));
        refused(after(x -> x.run(0, 9999)), "run to 9998, the clock is 9999", STATE, x -> x.run(0, 9998));
        asked(after(x -> x.run(0, 9999)), "run to the last clock", 0, x -> x.run(0, 9999));
        refused(after(x -> x.run(0, 1)), "run to 0, the clock is 1", STATE, x -> x.run(0, 0));
        answers(after(x -> {
            x.run(0, 20);
            x.book(0, 20, 5, 1);
        }), "run to the clock where one waits", 1, x -> x.run(0, 20));
        answers(Edges::ready, "run below the clock of another house", 0, x -> x.run(0, 12));
        refused(Edges::ready, "run below the clock of house 3", STATE, x -> x.run(3, 12));
        answers(after(x -> {
            x.run(0, 20);
            x.back(0, 5);
        }), "run to a clock that was brought back", 0, x -> x.run(0, 5));
    }

    private void back() {
        promise(11);
        sentence("Goes back to a time: all that came with a time behind it wait again, and the clock becomes the time");
        int[][] due = {{45, 0}, {41, 0}, {40, 0}, {39, 1}, {30, 1}, {29, 2}, {20, 2}, {11, 3}, {10, 3}, {9, 4}, {0, 4}};
        for (int[] d : due) {
            Bookinghouse x = fourCame();
            same("back to " + d[0], x.back(0, d[0]), d[1]);
            same("the clock", x.clock(0), d[0]);
            same("the clock of another house", x.clock(1), 45);
            same("waiting", x.waiting(0), d[1]);
            same("came", x.came(0), 4 - d[1]);
            for (int number = 0; number < 4; number++) {
                same("what it is", x.about(number, 'x'), number < 4 - d[1] ? 1 : 0);
                same("its house", x.about(number, 'h'), 0);
                same("the crowd at its time", x.crowd(0, 10 + 10 * number), number < 4 - d[1] ? 1 : 0);
            }
            cameRow(x, 1, 4);
        }
        Bookinghouse y = fourCame();
        y.book(0, 45, 1, 1);
        y.book(0, 46, 1, 1);
        y.back(0, 20);
        y.put(0, 5, 30);
        waitingRow(y, 0, 2, 5, 3, 6);
        houses("back", (z, h) -> z.back(h, 10), (z, h) -> z.back(h, 10000), 0, 1, 1, 1);

        sentence("Bookings that are called off stay so");
        Bookinghouse z = fourWait();
        z.callOff(0, 2);
        z.run(0, 45);
        same("back with one called off", z.back(0, 0), 3);
        waitingRow(z, 0, 0, 1, 3);
        same("what it is", z.about(2, 'x'), 2);

        sentence("Returns how many wait again");
        asked(Bookinghouse::new, "back of a new house", 0, w -> w.back(0, 0));
        answers(after(w -> w.run(0, 9999)), "back of none", 0, w -> w.back(0, 0));
        asked(Edges::fourCame, "back to the clock", 0, w -> w.back(0, 45));
        answers(Edges::ready, "back with one that waits", 1, w -> w.back(0, 9));
        answers(after(w -> {
            fill(w, 0, 60, 48);
            w.run(0, 60);
        }), "back of 48", 48, w -> w.back(0, 59));
    }

    private void backTimes() {
        promise(11);
        sentence("`time`: the time");
        for (int time : new int[] {0, 1, 9998, 9999}) {
            answers(after(x -> x.run(0, 9999)), "the clock behind back to " + time, time, x -> {
                x.back(0, time);
                return x.clock(0);
            });
            answers(after(x -> {
                x.book(0, time, 1, 1);
                x.run(0, 9999);
            }), "back to one at " + time, 0, x -> x.back(0, time));
        }
        sentence("Throws `IllegalArgumentException` if time is out of range");
        for (int time : NO_TIMES) {
            refused(Bookinghouse::new, "back of a new house to " + time, ARGUMENT, x -> x.back(0, time));
            refused(Edges::fourCame, "back to " + time, ARGUMENT, x -> x.back(0, time));
            refused(after(x -> x.run(0, 9999)), "back from 9999 to " + time, ARGUMENT, x -> x.back(0, time));
            refused(cameAndWaiting(2, 47), "back of too many to " + time, ARGUMENT, x -> x.back(0, time));
        }
    }

    private void backRefused() {
        promise(11);
        sentence("Throws `IllegalStateException` if the time is above the clock,"
                + " or more than 48 would wait in the house");
        refused(Bookinghouse::new, "back to 1, the clock is 0", STATE, x -> x.back(0, 1));
        refused(Bookinghouse::new, "back to 9999, the clock is 0", STATE, x -> x.back(0, 9999));
        refused(Edges::fourCame, "back to one above the clock", STATE, x -> x.back(0, 46));
        refused(Edges::ready, "back below the clock of another house", STATE, x -> x.back(0, 11));
        refused(after(x -> x.run(0, 9998)), "back to 9999, the clock is 9998", STATE, x -> x.back(0, 9999));

        int[][] fits = {{1, 47}, {2, 46}, {24, 24}, {47, 1}, {48, 0}};
        for (int[] f : fits) {
            answers(cameAndWaiting(f[0], f[1]), "back of " + f[0] + " to " + f[1], f[0], x -> x.back(0, 59));
        }
        int[][] fitsNot = {{1, 48}, {2, 47}, {25, 24}, {48, 1}, {49, 0}, {120, 0}};
        for (int[] f : fitsNot) {
            refused(cameAndWaiting(f[0], f[1]), "back of " + f[0] + " to " + f[1], STATE, x -> x.back(0, 59));
        }
        asked(cameAndWaiting(49, 48), "back to their time where 48 wait", 0, x -> x.back(0, 60));
        answers(after(x -> {
            fill(x, 0, 60, 40);
            x.run(0, 60);
            fill(x, 0, 61, 9);
            x.run(0, 61);
            fill(x, 0, 62, 39);
        }), "back of 9 of 49 to 39", 9, x -> x.back(0, 60));
        answers(after(x -> {
            fill(x, 0, 60, 48);
            x.run(0, 60);
            fill(x, 1, 60, 48);
        }), "back of 48 beside 48", 48, x -> x.back(0, 0));
    }

    private void clock() {
        promise(12);
        sentence("Returns the clock of a house");
        asked(Edges::ready, "clock behind next", 12, x -> x.clock(2));
        asked(after(x -> x.run(2, 9999)), "clock behind run", 9999, x -> x.clock(2));
        asked(after(x -> {
            x.run(2, 9999);
            x.back(2, 1);
        }), "clock behind back", 1, x -> x.clock(2));
        asked(Edges::fourWait, "clock ahead of what waits", 0, x -> x.clock(0));
        houses("clock", (x, h) -> x.clock(h), (x, h) -> x.clock(h), 10, 11, 12, 13);
        sentence("Returns its time");
        asked(Bookinghouse::new, "the first clock", 0, x -> x.clock(3));
        asked(Edges::onAtTheEnd, "the last clock", 9999, x -> x.clock(0));
    }

    private void waiting() {
        promise(13);
        sentence("Returns how many bookings wait in a house");
        asked(Edges::fourWait, "waiting of four", 4, x -> x.waiting(0));
        asked(Edges::fourWait, "waiting of another house", 0, x -> x.waiting(1));
        asked(Edges::fourCame, "waiting of four that came", 0, x -> x.waiting(0));
        asked(after(x -> x.callOff(0, x.book(0, 1, 1, 1))), "waiting of one called off", 0, x -> x.waiting(0));
        houses("waiting", (x, h) -> x.waiting(h), (x, h) -> x.waiting(h), 1, 1, 1, 1);
        sentence("Returns how many");
        asked(Bookinghouse::new, "waiting of none", 0, x -> x.waiting(0));
        asked(after(x -> fill(x, 3, 60, 48)), "waiting of 48", 48, x -> x.waiting(3));
    }

    private void came() {
        promise(14);
        sentence("Returns how many bookings came in a house");
        asked(Edges::fourCame, "came of four", 4, x -> x.came(0));
        asked(Edges::fourCame, "came of another house", 1, x -> x.came(1));
        asked(Edges::fourWait, "came of four that wait", 0, x -> x.came(0));
        asked(Edges::neverBusy, "came with span 0", 2, x -> x.came(0));
        houses("came", (x, h) -> x.came(h), (x, h) -> x.came(h), 1, 1, 1, 1);
        sentence("Returns how many");
        asked(Bookinghouse::new, "came of none", 0, x -> x.came(0));
        asked(cameAndWaiting(120, 0), "came of 120", 120, x -> x.came(0));
    }

    private void waits() {
        promise(15);
        sentence("Returns a booking that waits");
        Supplier<Bookinghouse> turned = after(x -> {
            x.series(0, 10, 10, 4, 5, 1);
            x.put(0, 0, 50);
            x.book(0, 10, 5, 1);
        });
        int[] due = {4, 1, 2, 3, 0};
        for (int i = 0; i < due.length; i++) {
            int place = i;
            asked(turned, "waits at " + i, due[i], x -> x.waits(0, place));
        }
        sentence("Returns its number");
        asked(after(x -> fillAll(x, 120)), "waits of the last number", 119, x -> x.waits(2, 23));
        houses("waits", (x, h) -> x.waits(h, 0), (x, h) -> x.waits(h, -1), 1, 3, 5, 7);

        sentence("`place`: its place among those that wait, from 0, in their sequence");
        asked(Edges::fourWait, "waits at the first place", 0, x -> x.waits(0, 0));
        asked(Edges::fourWait, "waits at the last place", 3, x -> x.waits(0, 3));
        asked(after(x -> fill(x, 0, 60, 48)), "waits at the 48th place", 47, x -> x.waits(0, 47));
        sentence("Throws `NoSuchElementException` if there is no such place");
        for (int place : new int[] {-1, 4, 48, LOW, HIGH}) {
            refused(Edges::fourWait, "waits at " + place, ELEMENT, x -> x.waits(0, place));
        }
        for (int place : new int[] {-1, 0, 1, LOW, HIGH}) {
            refused(Edges::fourCame, "waits of none at " + place, ELEMENT, x -> x.waits(0, place));
            refused(Bookinghouse::new, "waits of a new house at " + place, ELEMENT, x -> x.waits(0, place));
        }
        refused(after(x -> fill(x, 0, 60, 48)), "waits at the 49th place", ELEMENT, x -> x.waits(0, 48));
        refused(Edges::fourWait, "waits in another house", ELEMENT, x -> x.waits(1, 0));
    }

    private void cameAt() {
        promise(16);
        sentence("Returns a booking that came");
        Supplier<Bookinghouse> turned = after(x -> {
            x.series(0, 10, 10, 3, 5, 1);
            x.run(0, 20);
            x.put(0, 2, 20);
            x.book(0, 20, 5, 1);
            x.next(0);
            x.back(0, 10);
            x.put(0, 1, 21);
            x.run(0, 30);
        });
        int[] due = {0, 2, 3, 1};
        for (int i = 0; i < due.length; i++) {
            int place = i;
            asked(turned, "cameAt " + i, due[i], x -> x.cameAt(0, place));
        }
        sentence("Returns its number");
        asked(Edges::fourCame, "cameAt of another house", 4, x -> x.cameAt(1, 0));
        asked(cameAndWaiting(120, 0), "cameAt of the 120th place", 119, x -> x.cameAt(0, 119));
        houses("cameAt", (x, h) -> x.cameAt(h, 0), (x, h) -> x.cameAt(h, -1), 0, 2, 4, 6);

        sentence("`place`: its place among those that came, from 0, as they came");
        asked(Edges::fourCame, "cameAt of the first place", 0, x -> x.cameAt(0, 0));
        asked(Edges::fourCame, "cameAt of the last place", 3, x -> x.cameAt(0, 3));
        asked(cameAndWaiting(120, 0), "cameAt of the 120th place", 119, x -> x.cameAt(0, 119));
        asked(after(x -> {
            x.book(0, 10, 5, 1);
            x.book(0, 10, 5, 1);
            x.put(0, 0, 11);
            x.next(0);
            x.put(0, 0, 10);
            x.next(0);
        }), "cameAt of the greater number that came first", 1, x -> x.cameAt(0, 0));
        sentence("Throws `NoSuchElementException` if there is no such place");
        for (int place : new int[] {-1, 4, 120, LOW, HIGH}) {
            refused(Edges::fourCame, "cameAt of " + place, ELEMENT, x -> x.cameAt(0, place));
        }
        for (int place : new int[] {-1, 0, 1, LOW, HIGH}) {
            refused(Edges::fourWait, "cameAt of none at " + place, ELEMENT, x -> x.cameAt(0, place));
            refused(Bookinghouse::new, "cameAt of a new house at " + place, ELEMENT, x -> x.cameAt(0, place));
        }
        refused(cameAndWaiting(120, 0), "cameAt of the 121st place", ELEMENT, x -> x.cameAt(0, 120));
        refused(Edges::fourCame, "cameAt in another house", ELEMENT, x -> x.cameAt(2, 0));
    }

    private void nextTime() {
        promise(17);
        sentence("Returns the least time, at a time or behind it, at which a booking waits");
        int[][] due = {{LOW, 10}, {-1, 10}, {0, 10}, {9, 10}, {10, 10}, {11, 20}, {19, 20}, {20, 20}, {21, 30},
            {31, 40}, {39, 40}, {40, 40}};
        for (int[] d : due) {
            asked(Edges::fourWait, "nextTime at " + d[0], d[1], x -> x.nextTime(0, d[0]));
        }
        sentence("Returns the least one");
        asked(Edges::ready, "nextTime behind what came", 20, x -> x.nextTime(0, 0));
        asked(after(x -> {
            x.book(0, 20, 5, 1);
            x.book(0, 10, 5, 1);
            x.book(0, 15, 5, 1);
        }), "nextTime of numbers that do not rise with the times", 15, x -> x.nextTime(0, 11));
        houses("nextTime", (x, h) -> x.nextTime(h, 5), (x, h) -> x.nextTime(h, HIGH), 20, 21, 22, 23);

        sentence("`time`: the time, or any other number");
        Supplier<Bookinghouse> atFirst = after(x -> x.book(0, 0, 1, 1));
        asked(atFirst, "nextTime of one at 0 from -1", 0, x -> x.nextTime(0, -1));
        asked(atFirst, "nextTime of one at 0 from 0", 0, x -> x.nextTime(0, 0));
        Supplier<Bookinghouse> atLast = after(x -> x.book(0, 9999, 1, 1));
        asked(atLast, "nextTime of one at 9999 from low", 9999, x -> x.nextTime(0, LOW));
        asked(atLast, "nextTime of one at 9999 from 9999", 9999, x -> x.nextTime(0, 9999));

        sentence("Throws `NoSuchElementException` if there is none");
        refused(atFirst, "nextTime of one at 0 from 1", ELEMENT, x -> x.nextTime(0, 1));
        refused(atLast, "nextTime of one at 9999 from 10000", ELEMENT, x -> x.nextTime(0, 10000));
        for (int time : new int[] {41, 9999, 10000, HIGH}) {
            refused(Edges::fourWait, "nextTime at " + time, ELEMENT, x -> x.nextTime(0, time));
        }
        for (int time : new int[] {LOW, -1, 0, 10, HIGH}) {
            refused(Bookinghouse::new, "nextTime of none at " + time, ELEMENT, x -> x.nextTime(0, time));
            refused(Edges::fourCame, "nextTime of what came at " + time, ELEMENT, x -> x.nextTime(0, time));
            refused(Edges::fourWait, "nextTime of another house at " + time, ELEMENT, x -> x.nextTime(1, time));
        }
    }

    private void about() {
        promise(18);
        sentence("`what`: 't' its time, 's' its span, 'w' its weight, 'h' the house in which it waits or came,"
                + " or waited when it was called off, 'x' what it is: 0 if it waits, 1 if it came,"
                + " 2 if it is called off");
        Supplier<Bookinghouse> state = after(x -> {
            x.book(2, 100, 50, 9);
            x.book(3, 200, 0, 1);
            x.book(1, 300, 500, 5);
            x.book(1, 0, 17, 4);
            x.next(2);
            x.join(0, 3);
            x.callOff(0, 1);
            x.part(1, 3, 300);
            x.put(3, 2, 9999);
            x.next(1);
            x.back(1, 0);
        });
        long[][] due = {{100, 50, 9, 2, 1}, {200, 0, 1, 0, 2}, {9999, 500, 5, 3, 0}, {0, 17, 4, 1, 1}};
        for (int i = 0; i < due.length; i++) {
            int number = i;
            asked(state, "its time", due[i][0], x -> x.about(number, 't'));
            asked(state, "its span", due[i][1], x -> x.about(number, 's'));
            asked(state, "its weight", due[i][2], x -> x.about(number, 'w'));
            asked(state, "its house", due[i][3], x -> x.about(number, 'h'));
            asked(state, "what it is", due[i][4], x -> x.about(number, 'x'));
        }
        sentence("Tells of a booking");
        asked(after(x -> {
            x.book(1, 5, 1, 1);
            x.callOff(1, 0);
            x.series(1, 5, 0, 2, 1, 1);
            x.join(2, 1);
        }), "the house where one called off waited, behind join", 1, x -> x.about(0, 'h'));
        sentence("Returns that");
        asked(after(x -> {
            x.book(1, 5, 1, 1);
            x.next(1);
            x.back(1, 4);
        }), "what one is that was brought back", 0, x -> x.about(0, 'x'));
    }

    private void aboutEdges() {
        promise(18);
        sentence("`number`: its number");
        asked(Edges::fourWait, "about the first one", 10, x -> x.about(0, 't'));
        asked(Edges::fourWait, "about the last one", 40, x -> x.about(3, 't'));
        asked(after(x -> fillAll(x, 120)), "about the 120th", 2, x -> x.about(119, 'h'));
        sentence("Throws `IndexOutOfBoundsException` if there is no such booking");
        for (int number : new int[] {-1, 4, 119, 120, LOW, HIGH}) {
            for (char what : new char[] {'t', 's', 'w', 'h', 'x', 'q', (char) 0}) {
                refused(Edges::fourWait, "about " + number, INDEX, x -> x.about(number, what));
            }
        }
        for (int number : new int[] {-1, 0, 1, LOW, HIGH}) {
            refused(Bookinghouse::new, "about " + number + " in a new object", INDEX, x -> x.about(number, 't'));
        }
        refused(after(x -> fillAll(x, 120)), "about the 121st", INDEX, x -> x.about(120, 't'));
        sentence("Throws `IllegalArgumentException` if what is none of these");
        for (int what = 0; what < 128; what++) {
            char letter = (char) what;
            if ("tswhx".indexOf(letter) < 0) {
                refused(Edges::fourWait, "about with sign " + what, ARGUMENT, x -> x.about(0, letter));
            }
        }
        for (char what : new char[] {128, 255, 256, 't' + 256, 'x' + 256, 65535}) {
            refused(Edges::fourWait, "about with sign " + (int) what, ARGUMENT, x -> x.about(3, what));
        }
    }

    private static Supplier<Bookinghouse> oneCame() {
        return after(x -> {
            x.book(0, 10, 5, 1);
            x.next(0);
        });
    }

    /** In house 0 so many came at 60, and so many wait there. */
    private static Supplier<Bookinghouse> cameAndWaiting(int came, int waiting) {
        return after(x -> {
            for (int i = 0; i < came; i += 48) {
                fill(x, 0, 60, Math.min(48, came - i));
                x.run(0, 60);
            }
            fill(x, 0, 60, waiting);
        });
    }
}
