import java.lang.management.ManagementFactory;
import java.util.List;
import java.util.function.Consumer;
import java.util.function.Supplier;

/** The sentences of "What it is" and of "Terms". */
final class TermEdges extends Edges {
    private static final int MOST_BYTES = 200_000;

    TermEdges(Check check) {
        super(check);
    }

    void all() {
        each(this::calls, this::room, this::oneThingOnce, this::sequenceAndClock, this::changesAndLoad,
                this::waitsBehindJoin, this::backAndRun, this::fourHouses, this::fortyEight,
                this::numbersAndRanges, this::comes, this::isOn, this::crowdAndBusy, this::rows, this::calledOff);
    }

    /** The last one of 512 calls is answered as is due, after calls of one kind or of several. */
    private void calls() {
        sentence("An object is used for at most 512 calls after it has been made; what later calls answer is free");
        Bookinghouse refused = new Bookinghouse();
        repeat(refused, 511, x -> outcome(x, y -> y.next(0)));
        same("book as the 512th call", refused.book(0, 9999, 500, 9), 0);

        Bookinghouse looked = all120();
        repeat(looked, 491, x -> x.isSound());
        same("isSound as the 512th call", number(looked.isSound()), 1);

        Bookinghouse turned = new Bookinghouse();
        repeat(turned, 4, x -> x.series(0, 9999, 0, 12, 500, 9));
        repeat(turned, 253, x -> {
            x.run(0, 9999);
            x.back(0, 0);
        });
        same("run as the 511th call", turned.run(0, 9999), 48);
        same("load as the 512th call", turned.load(0), 48 * 500 * 9);

        Bookinghouse carried = new Bookinghouse();
        repeat(carried, 4, x -> x.series(0, 9999, 0, 12, 500, 9));
        repeat(carried, 126, x -> {
            x.join(1, 0);
            x.part(1, 2, 0);
            x.join(3, 2);
            x.part(3, 0, 9999);
        });
        same("run as the 509th call", carried.run(0, 9999), 48);
        same("came as the 510th call", carried.came(0), 48);
        same("crowd as the 511th call", carried.crowd(0, 10498), 432);
        same("isSound as the 512th call", number(carried.isSound()), 1);
    }

    private static void repeat(Bookinghouse x, int times, Consumer<Bookinghouse> calls) {
        for (int i = 0; i < times; i++) {
            calls.accept(x);
        }
    }

    /** A run of 512 calls takes little room: none of them makes objects, if it is not refused. */
    private void room() {
        sentence("An object is used for at most 512 calls after it has been made; what later calls answer is free");
        if (!(ManagementFactory.getThreadMXBean() instanceof com.sun.management.ThreadMXBean)) {
            return;
        }
        com.sun.management.ThreadMXBean bean = (com.sun.management.ThreadMXBean) ManagementFactory.getThreadMXBean();
        long least = Long.MAX_VALUE;
        // The machine itself makes some objects at first, so the least one of several runs counts.
        for (int i = 0; i < 20; i++) {
            long before = bean.getThreadAllocatedBytes(Thread.currentThread().getId());
            dearRun();
            least = Math.min(least, bean.getThreadAllocatedBytes(Thread.currentThread().getId()) - before);
        }
        yes("that " + least + " bytes of a run are few", least < MOST_BYTES);
    }

    /** 512 calls on one object, where all bookings come in one house. */
    private static void dearRun() {
        Bookinghouse x = new Bookinghouse();
        for (int i = 0; i < 10; i++) {
            x.series(0, 1000 * i, 1, 12, 500, 9);
            x.run(0, 1000 * i + 12);
        }
        for (int i = 0; i < 41; i++) {
            x.back(0, 8000);
            x.run(0, 9999);
            x.isSound();
            x.checksum();
            x.span(0, 9, 'g');
            x.free(0, 0, 500);
            x.mean(0);
            x.share(0);
            x.isQuiet(0);
            x.busy(0, LOW, HIGH);
            x.greatestFrom(0);
            x.cameAt(0, 119);
        }
    }

    private void oneThingOnce() {
        sentence("Whatever is booked, called off, put to other times, joined, parted, run and brought back, and in"
                + " whatever sequence: each booking that was made waits in just one house, or came in just one, or is"
                + " called off, and is none of these twice");
        List<Consumer<Bookinghouse>> steps = List.of(
                x -> x.series(0, 10, 5, 12, 7, 2), x -> x.series(1, 12, 9, 12, 0, 3),
                x -> x.callOff(0, 3), x -> x.put(0, 5, 0), x -> x.run(0, 30), x -> x.join(1, 0), x -> x.back(0, 9),
                x -> x.part(1, 2, 50), x -> x.callOffAll(2, 60, 70), x -> x.next(2), x -> x.book(3, 9999, 500, 9),
                x -> x.run(3, 9999), x -> x.join(0, 1), x -> x.next(0), x -> x.back(0, 0), x -> x.back(3, 0));
        for (int many = 0; many <= steps.size(); many++) {
            Bookinghouse x = new Bookinghouse();
            steps.subList(0, many).forEach(step -> step.accept(x));
            eachIsOneThing(x);
        }
    }

    private void eachIsOneThing(Bookinghouse x) {
        int[] waits = new int[120];
        int[] came = new int[120];
        for (int house = 0; house < 4; house++) {
            for (int i = 0; i < x.waiting(house); i++) {
                int number = x.waits(house, i);
                waits[number]++;
                same("the house where " + number + " waits", x.about(number, 'h'), house);
            }
            for (int i = 0; i < x.came(house); i++) {
                int number = x.cameAt(house, i);
                came[number]++;
                same("the house where " + number + " came", x.about(number, 'h'), house);
            }
        }
        for (int number = 0; number < 120 && isMade(x, number); number++) {
            long what = x.about(number, 'x');
            same("how often " + number + " waits", waits[number], what == 0 ? 1 : 0);
            same("how often " + number + " came", came[number], what == 1 ? 1 : 0);
            yes("that " + number + " is one of the three", what >= 0 && what <= 2);
        }
    }

    private static boolean isMade(Bookinghouse x, int number) {
        return outcome(x, y -> y.about(number, 'x')) != INDEX;
    }

    private void sequenceAndClock() {
        sentence("Of those that wait in a house the one with the least time comes first, and of the same time the"
                + " one with the least number; none of them has a time below the clock, and none that came has one"
                + " above it");
        Bookinghouse x = new Bookinghouse();
        x.book(0, 30, 5, 1);
        x.book(0, 20, 5, 1);
        x.book(0, 20, 5, 1);
        x.book(0, 20, 5, 1);
        x.put(0, 1, 30);
        x.put(0, 1, 20);
        int[] due = {1, 2, 3, 0};
        for (int number : due) {
            same("the one that comes", x.next(0), number);
            same("the clock", x.clock(0), number == 0 ? 30 : 20);
        }
        Supplier<Bookinghouse> atClock = after(y -> {
            y.series(0, 19, 1, 3, 5, 1);
            y.run(0, 20);
        });
        asked(atClock, "the least time that waits", 21, y -> y.nextTime(0, LOW));
        asked(atClock, "the last one that came", 1, y -> y.cameAt(0, y.came(0) - 1));
        refused(atClock, "a booking below the clock", STATE, y -> y.book(0, 19, 5, 1));
        refused(atClock, "one put below the clock", STATE, y -> y.put(0, 2, 19));
        refused(after(y -> {
            y.series(0, 19, 1, 3, 5, 1);
            y.run(0, 20);
            y.book(1, 19, 5, 1);
        }), "one joined to a later clock", STATE, y -> y.join(0, 1));
    }

    private void changesAndLoad() {
        sentence("The crowd of a house at a time is the sum of the weights of those that came there and are on then;"
                + " so all its changes together are 0, and the sum of the crowds at all times is that of weight times"
                + " span of all that came");
        int[][] came = {{10, 10, 3}, {12, 0, 9}, {15, 10, 2}, {20, 30, 4}, {25, 1, 1}};
        Supplier<Bookinghouse> state = after(x -> {
            for (int[] c : came) {
                x.book(2, c[0], c[1], c[2]);
            }
            x.book(2, 60, 7, 7);
            x.run(2, 59);
        });
        Bookinghouse crowds = state.get();
        Bookinghouse changes = state.get();
        long load = 0;
        long all = 0;
        for (int time = 0; time < 70; time++) {
            long due = 0;
            for (int[] c : came) {
                due += c[0] <= time && time < c[0] + c[1] ? c[2] : 0;
            }
            same("crowd at " + time, crowds.crowd(2, time), due);
            load += due;
            all += changes.change(2, time);
        }
        same("all changes together", all, 0);
        same("load", crowds.load(2), load);
        same("weight times span", load, 3 * 10 + 2 * 10 + 4 * 30 + 1);
    }

    private void waitsBehindJoin() {
        sentence("What waits in a house behind a join is just what waited in both");
        Bookinghouse x = new Bookinghouse();
        x.series(0, 10, 10, 3, 5, 1);
        x.series(1, 10, 10, 3, 5, 1);
        x.next(0);
        x.callOff(1, 4);
        x.join(1, 0);
        waitingRow(x, 1, 3, 1, 2, 5);
        waitingRow(x, 0);
        cameRow(x, 0, 0);
        cameRow(x, 1);
        same("what the one called off is", x.about(4, 'x'), 2);
    }

    private void backAndRun() {
        sentence("If none waits at the time of the clock, then going back to a time, and running to the time that the"
                + " clock had, leave the same bookings that came, and the same crowd at every time");
        for (int time = 0; time <= 30; time++) {
            int to = time;
            asked(Edges::crowded, "back to " + time + " and run to 30", 4, x -> {
                x.back(0, to);
                x.run(0, 30);
                return x.came(0);
            });
        }
        Supplier<Bookinghouse> oneAtTheClock = () -> {
            Bookinghouse x = crowded();
            x.book(0, 30, 2, 1);
            return x;
        };
        for (int time : new int[] {0, 29, 30}) {
            answers(oneAtTheClock, "back to " + time + " and run, one waits at the clock", 5, x -> {
                x.back(0, time);
                x.run(0, 30);
                return x.came(0);
            });
        }
        Bookinghouse turned = new Bookinghouse();
        turned.series(0, 10, 0, 2, 5, 1);
        turned.put(0, 0, 11);
        turned.next(0);
        turned.put(0, 0, 10);
        turned.next(0);
        cameRow(turned, 0, 1, 0);
        turned.back(0, 9);
        turned.run(0, 10);
        cameRow(turned, 0, 0, 1);
    }

    private void fourHouses() {
        sentence("There are the houses 0 to 3");
        for (int h = 0; h < 4; h++) {
            int house = h;
            for (int o = 0; o < 4; o++) {
                int other = o;
                asked(after(x -> x.run(house, 5 + house)), "the clock of house " + o + " when " + h + " ran",
                        o == h ? 5 + h : 0, x -> x.clock(other));
            }
        }
        for (int none : NO_HOUSES) {
            refused(Bookinghouse::new, "house " + none, INDEX, x -> x.waiting(none));
        }
    }

    /** Each way to wait in a house, up to the 48th and not to the 49th. */
    private void fortyEight() {
        sentence("Each has a clock, which is 0 at first, bookings that wait, at most 48, and bookings that came");
        for (int h = 0; h < 4; h++) {
            int house = h;
            int other = (h + 1) % 4;
            Supplier<Bookinghouse> almost = after(x -> {
                x.book(house, 9, 1, 1);
                x.next(house);
                x.book(other, 60, 1, 1);
                fill(x, house, 60, 47);
            });
            Supplier<Bookinghouse> full = after(x -> {
                x.book(house, 9, 1, 1);
                x.next(house);
                x.book(other, 60, 1, 1);
                fill(x, house, 60, 48);
            });
            asked(Bookinghouse::new, "the clock at first", 0, x -> x.clock(house));
            answers(almost, "book for the 48th", 49, x -> x.book(house, 60, 1, 1));
            refused(full, "book for the 49th", STATE, x -> x.book(house, 60, 1, 1));
            answers(almost, "series for the 48th", 49, x -> x.series(house, 60, 0, 1, 1, 1));
            refused(full, "series for the 49th", STATE, x -> x.series(house, 60, 0, 1, 1, 1));
            answers(almost, "join for the 48th", 1, x -> x.join(house, other));
            refused(full, "join for the 49th", STATE, x -> x.join(house, other));
            answers(almost, "part for the 48th", 1, x -> x.part(other, house, 60));
            refused(full, "part for the 49th", STATE, x -> x.part(other, house, 60));
            answers(almost, "back for the 48th", 1, x -> x.back(house, 8));
            refused(full, "back for the 49th", STATE, x -> x.back(house, 8));
            answers(full, "put where 48 wait", 60, x -> x.put(house, 2, 61));
        }
    }

    private void numbersAndRanges() {
        sentence("A booking has a number, the bookings of all houses being numbered from 0 as they are made, at most"
                + " 120; a time, 0 to 9999; a span, 0 to 500; and a weight, 1 to 9");
        Bookinghouse x = new Bookinghouse();
        for (int number = 0; number < 120; number++) {
            same("the number", x.book(number % 4, 10, 1, 1), number);
        }
        for (int house = 0; house < 4; house++) {
            int full = house;
            same("waiting", x.waiting(house), 30);
            refused(after(y -> {
                for (int number = 0; number < 120; number++) {
                    y.book(number % 4, 10, 1, 1);
                }
            }), "the 121st booking", STATE, y -> y.book(full, 10, 1, 1));
        }
        Supplier<Bookinghouse> least = after(y -> y.book(0, 0, 0, 1));
        asked(least, "the least time", 0, y -> y.about(0, 't'));
        asked(least, "the least span", 0, y -> y.about(0, 's'));
        asked(least, "the least weight", 1, y -> y.about(0, 'w'));
        Supplier<Bookinghouse> most = after(y -> y.book(0, 9999, 500, 9));
        asked(most, "the greatest time", 9999, y -> y.about(0, 't'));
        asked(most, "the greatest span", 500, y -> y.about(0, 's'));
        asked(most, "the greatest weight", 9, y -> y.about(0, 'w'));
        int[][] wrong = {{-1, 0, 1}, {0, -1, 1}, {0, 0, 0}, {10000, 500, 9}, {9999, 501, 9}, {9999, 500, 10}};
        for (int[] w : wrong) {
            refused(Bookinghouse::new, "book of " + w[0] + " " + w[1] + " " + w[2], ARGUMENT,
                    y -> y.book(0, w[0], w[1], w[2]));
        }
    }

    private void comes() {
        sentence("When a booking comes, it does not wait any more, and the clock becomes its time");
        Bookinghouse x = fourWait();
        x.next(0);
        waitingRow(x, 0, 1, 2, 3);
        cameRow(x, 0, 0);
        same("the clock", x.clock(0), 10);
        x.run(0, 30);
        waitingRow(x, 0, 3);
        cameRow(x, 0, 0, 1, 2);
        x.next(0);
        waitingRow(x, 0);
        same("the clock", x.clock(0), 40);
        answers(after(y -> {
            y.book(0, 0, 5, 1);
            y.next(0);
        }), "the clock of one that came at 0", 0, y -> y.clock(0));
        answers(Edges::onAtTheEnd, "the clock of one that came at 9999", 9999, y -> y.clock(0));
    }

    private void isOn() {
        sentence("From then on it is on at its time and behind it, at as many times as its span tells, also at such"
                + " that the clock has not come to; with span 0 it is on at none");
        for (int span : new int[] {0, 1, 2, 499, 500}) {
            Supplier<Bookinghouse> came = after(x -> {
                x.book(0, 100, span, 7);
                x.next(0);
            });
            int[][] due = {{99, 0}, {100, span > 0 ? 7 : 0}, {100 + span - 1, span > 0 ? 7 : 0}, {100 + span, 0}};
            for (int[] d : due) {
                asked(came, "crowd at " + d[0] + " of span " + span, d[1], x -> x.crowd(0, d[0]));
            }
            asked(came, "busy of span " + span, span, x -> x.busy(0, LOW, HIGH));
            asked(after(x -> x.book(0, 100, span, 7)), "busy ahead of its coming", 0, x -> x.busy(0, LOW, HIGH));
        }
    }

    private void crowdAndBusy() {
        sentence("The crowd of a house at a time is the sum of the weights of all that came in this house and are on"
                + " then; a time is busy if the crowd is not 0");
        Supplier<Bookinghouse> state = after(x -> {
            x.book(0, 10, 3, 1);
            x.book(0, 11, 3, 9);
            x.book(0, 12, 9, 5);
            x.book(1, 10, 9, 4);
            x.run(0, 11);
            x.run(1, 11);
        });
        int[][] due = {{9, 0, 0}, {10, 1, 1}, {11, 10, 1}, {12, 10, 1}, {13, 9, 1}, {14, 0, 0}};
        for (int[] d : due) {
            asked(state, "crowd at " + d[0], d[1], x -> x.crowd(0, d[0]));
            asked(state, "busy at " + d[0], d[2], x -> x.busy(0, d[0], d[0] + 1));
        }
    }

    private void rows() {
        sentence("Those that wait stand by their times, and those of the same time by their numbers");
        Bookinghouse x = new Bookinghouse();
        x.book(0, 9999, 1, 1);
        x.book(0, 0, 1, 1);
        x.book(0, 5, 1, 1);
        x.book(0, 0, 1, 1);
        x.book(0, 9999, 1, 1);
        x.book(0, 5, 1, 1);
        waitingRow(x, 0, 1, 3, 2, 5, 0, 4);
        sentence("Those that came stand as they came, the latest one last");
        x.next(0);
        x.put(0, 4, 3);
        x.run(0, 5);
        x.put(0, 0, 5);
        x.next(0);
        cameRow(x, 0, 1, 3, 4, 2, 5, 0);
        x.back(0, 3);
        cameRow(x, 0, 1, 3, 4);
        waitingRow(x, 0, 0, 2, 5);
    }

    private void calledOff() {
        sentence("A booking that is called off stays so");
        Supplier<Bookinghouse> state = after(x -> {
            x.series(0, 10, 10, 3, 5, 1);
            x.callOff(0, 1);
        });
        Supplier<Bookinghouse> all = after(x -> {
            x.series(0, 10, 10, 3, 5, 1);
            x.callOffAll(0, 20, 21);
        });
        for (Supplier<Bookinghouse> off : List.of(state, all)) {
            staysCalledOff(off, "run", x -> x.run(0, 9999));
            staysCalledOff(off, "run and back", x -> {
                x.run(0, 30);
                x.back(0, 0);
            });
            staysCalledOff(off, "join", x -> x.join(1, 0));
            staysCalledOff(off, "part", x -> x.part(0, 1, 0));
            staysCalledOff(off, "callOff", x -> x.callOff(0, 1));
            staysCalledOff(off, "callOffAll", x -> x.callOffAll(0, LOW, HIGH));
            staysCalledOff(off, "put", x -> outcome(x, y -> y.put(0, 1, 20)));
            staysCalledOff(off, "book", x -> x.book(0, 20, 5, 1));
            refused(off, "put of one called off", ELEMENT, x -> x.put(0, 1, 20));
        }
    }

    private void staysCalledOff(Supplier<Bookinghouse> state, String call, Consumer<Bookinghouse> made) {
        Bookinghouse x = state.get();
        made.accept(x);
        same("what it is behind " + call, x.about(1, 'x'), 2);
        same("its house behind " + call, x.about(1, 'h'), 0);
        same("its time behind " + call, x.about(1, 't'), 20);
        for (int house = 0; house < 2; house++) {
            for (int i = 0; i < x.waiting(house); i++) {
                yes("that it does not wait behind " + call, x.waits(house, i) != 1);
            }
            for (int i = 0; i < x.came(house); i++) {
                yes("that it did not come behind " + call, x.cameAt(house, i) != 1);
            }
        }
    }
}
