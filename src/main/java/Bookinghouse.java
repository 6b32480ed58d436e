import java.util.NoSuchElementException;

/** Houses with bookings whose events come by time. */
public final class Bookinghouse {
    private static final int HOUSES = 4;
    private static final int MOST_WAITING = 48;
    private static final int MOST_BOOKINGS = 120;
    private static final int LAST_TIME = 9999;
    private static final int MOST_SPAN = 500;
    private static final int MOST_WEIGHT = 9;
    private static final int MOST_STEP = 500;
    private static final int MOST_IN_SERIES = 12;
    private static final int LAST_FREE_FROM = 20000;
    private static final int MOST_FREE = 500;

    private static final int WAITS = 0;
    private static final int CAME = 1;
    private static final int CALLED_OFF = 2;

    private final Ledger ledger = new Ledger();
    private final House[] houses = new House[HOUSES];
    // Made once and used again by isSound, so that a call makes no objects.
    private final Crowd rebuilt = new Crowd();

    public Bookinghouse() {
        for (int i = 0; i < houses.length; i++) {
            houses[i] = new House(i);
        }
    }

    // Bookings that wait

    public int book(int house, int time, int span, int weight)
            throws IndexOutOfBoundsException, IllegalArgumentException, IllegalStateException {
        House home = houseAt(house);
        if (!isTime(time) || !isSpan(span) || !isWeight(weight)) {
            throw new IllegalArgumentException("time, span or weight is out of range");
        }
        refuseIfNoRoom(home, time, 1);
        return make(home, time, span, weight);
    }

    public int series(int house, int time, int step, int many, int span, int weight)
            throws IndexOutOfBoundsException, IllegalArgumentException, IllegalStateException {
        House home = houseAt(house);
        if (!isTime(time) || !isIn(step, 0, MOST_STEP) || !isIn(many, 1, MOST_IN_SERIES)
                || !isSpan(span) || !isWeight(weight) || !isTime(time + step * (many - 1))) {
            throw new IllegalArgumentException("step, many, span, weight or a time is out of range");
        }
        refuseIfNoRoom(home, time, many);
        int first = ledger.size();
        for (int i = 0; i < many; i++) {
            make(home, time + i * step, span, weight);
        }
        return first;
    }

    public boolean callOff(int house, int number) throws IndexOutOfBoundsException {
        House home = houseAt(house);
        int place = home.queue.placeOf(number);
        if (place < 0) {
            return false;
        }
        callOffPlace(home, place);
        return true;
    }

    public int callOffAll(int house, int from, int to)
            throws IndexOutOfBoundsException, IllegalArgumentException {
        House home = houseAt(house);
        refuseIfTurned(from, to);
        int first = waitingAheadOf(home, from);
        int many = waitingAheadOf(home, to) - first;
        for (int i = 0; i < many; i++) {
            callOffPlace(home, first);
        }
        return many;
    }

    public int put(int house, int number, int time)
            throws IndexOutOfBoundsException, IllegalArgumentException, NoSuchElementException,
            IllegalStateException {
        House home = houseAt(house);
        refuseIfNoTime(time);
        int place = home.queue.placeOf(number);
        if (place < 0) {
            throw new NoSuchElementException("no such booking waits in the house");
        }
        if (time < home.now) {
            throw new IllegalStateException("the time is below the clock");
        }
        int before = ledger.times.get(number);
        home.queue.remove(place);
        ledger.times.set(number, time);
        enqueue(home, number);
        return before;
    }

    public int join(int house, int other) throws IndexOutOfBoundsException, IllegalStateException {
        House target = houseAt(house);
        House source = houseAt(other);
        refuseIfSame(house, other);
        return move(source, 0, target);
    }

    public int part(int house, int other, int time)
            throws IndexOutOfBoundsException, IllegalStateException {
        House source = houseAt(house);
        House target = houseAt(other);
        refuseIfSame(house, other);
        return move(source, waitingAheadOf(source, time), target);
    }

    // What comes

    public int next(int house) throws IndexOutOfBoundsException, NoSuchElementException {
        House home = houseAt(house);
        if (home.queue.size() == 0) {
            throw new NoSuchElementException("none waits");
        }
        return letFirstCome(home);
    }

    public int run(int house, int time)
            throws IndexOutOfBoundsException, IllegalArgumentException, IllegalStateException {
        House home = houseAt(house);
        refuseIfNoTime(time);
        if (time < home.now) {
            throw new IllegalStateException("the time is below the clock");
        }
        int due = waitingAheadOf(home, time + 1);
        for (int i = 0; i < due; i++) {
            letFirstCome(home);
        }
        home.now = time;
        return due;
    }

    public int back(int house, int time)
            throws IndexOutOfBoundsException, IllegalArgumentException, IllegalStateException {
        House home = houseAt(house);
        refuseIfNoTime(time);
        if (time > home.now) {
            throw new IllegalStateException("the time is above the clock");
        }
        int again = cameBehind(home, time);
        if (home.queue.size() + again > MOST_WAITING) {
            throw new IllegalStateException("more than 48 would wait in the house");
        }
        for (int i = 0; i < again; i++) {
            bringLastBack(home);
        }
        home.now = time;
        return again;
    }

    // What is asked

    public int clock(int house) throws IndexOutOfBoundsException {
        return houseAt(house).now;
    }

    public int waiting(int house) throws IndexOutOfBoundsException {
        return houseAt(house).queue.size();
    }

    public int came(int house) throws IndexOutOfBoundsException {
        return houseAt(house).past.size();
    }

    public int waits(int house, int place) throws IndexOutOfBoundsException, NoSuchElementException {
        return itemAt(houseAt(house).queue, place);
    }

    public int cameAt(int house, int place) throws IndexOutOfBoundsException, NoSuchElementException {
        return itemAt(houseAt(house).past, place);
    }

    public int nextTime(int house, int time) throws IndexOutOfBoundsException, NoSuchElementException {
        House home = houseAt(house);
        int place = waitingAheadOf(home, time);
        if (place >= home.queue.size()) {
            throw new NoSuchElementException("none waits at the time or behind it");
        }
        return ledger.times.get(home.queue.get(place));
    }

    public long about(int number, char what) throws IndexOutOfBoundsException, IllegalArgumentException {
        if (!isIn(number, 0, ledger.size() - 1)) {
            throw new IndexOutOfBoundsException("no such booking");
        }
        if (what == 't') {
            return ledger.times.get(number);
        }
        if (what == 's') {
            return ledger.spans.get(number);
        }
        if (what == 'w') {
            return ledger.weights.get(number);
        }
        if (what == 'h') {
            return ledger.homes.get(number);
        }
        if (what == 'x') {
            return ledger.states.get(number);
        }
        throw new IllegalArgumentException("what is none of t, s, w, h and x");
    }

    // The crowd

    public int crowd(int house, int time) throws IndexOutOfBoundsException {
        return houseAt(house).crowd.at(time);
    }

    public int change(int house, int time) throws IndexOutOfBoundsException {
        return houseAt(house).crowd.changeAt(time);
    }

    public int greatest(int house) throws IndexOutOfBoundsException {
        return houseAt(house).crowd.highest();
    }

    public int greatestFrom(int house) throws IndexOutOfBoundsException, NoSuchElementException {
        Crowd crowd = houseAt(house).crowd;
        if (crowd.isEmpty()) {
            throw new NoSuchElementException("no time is busy");
        }
        return crowd.highestFrom();
    }

    public int busy(int house, int from, int to)
            throws IndexOutOfBoundsException, IllegalArgumentException {
        Crowd crowd = houseAt(house).crowd;
        refuseIfTurned(from, to);
        return crowd.busyTimes(from, to);
    }

    public int spans(int house) throws IndexOutOfBoundsException {
        return houseAt(house).crowd.busySpans();
    }

    public int span(int house, int place, char what)
            throws IndexOutOfBoundsException, IllegalArgumentException, NoSuchElementException {
        Crowd crowd = houseAt(house).crowd;
        if (what != 'b' && what != 'e' && what != 'g') {
            throw new IllegalArgumentException("what is none of b, e and g");
        }
        int first = crowd.firstChangeOf(place);
        if (first < 0) {
            throw new NoSuchElementException("no such place");
        }
        if (what == 'b') {
            return crowd.times.get(first);
        }
        return what == 'e' ? crowd.endOfSpan(first) : crowd.highestOfSpan(first);
    }

    public int free(int house, int from, int many)
            throws IndexOutOfBoundsException, IllegalArgumentException {
        Crowd crowd = houseAt(house).crowd;
        if (!isIn(from, 0, LAST_FREE_FROM) || !isIn(many, 1, MOST_FREE)) {
            throw new IllegalArgumentException("from or many is out of range");
        }
        return crowd.freeFrom(from, many);
    }

    public long load(int house) throws IndexOutOfBoundsException {
        return houseAt(house).crowd.total();
    }

    public double mean(int house) throws IndexOutOfBoundsException, ArithmeticException {
        Crowd crowd = houseAt(house).crowd;
        int times = crowd.allBusyTimes();
        if (times == 0) {
            throw new ArithmeticException("no time is busy");
        }
        return (double) crowd.total() / (double) times;
    }

    public float share(int house) throws IndexOutOfBoundsException, ArithmeticException {
        House home = houseAt(house);
        int all = home.past.size() + home.queue.size();
        if (all == 0) {
            throw new ArithmeticException("none came or waits");
        }
        return (float) home.past.size() / (float) all;
    }

    public boolean isQuiet(int house) throws IndexOutOfBoundsException {
        House home = houseAt(house);
        return home.queue.size() == 0 && home.crowd.isOverAt(home.now);
    }

    public long checksum() {
        long sum = 7;
        for (House house : houses) {
            if (house != null) {
                sum = withHouse(sum, house);
            }
        }
        return sum;
    }

    public boolean isSound() {
        for (int number = 0; number < ledger.size(); number++) {
            if (!isOneThingOnce(number)) {
                return false;
            }
        }
        for (House house : houses) {
            if (house == null || !isSplitByClock(house) || !crowdIsOfThoseThatCame(house)
                    || !standsWithAllOthers(house)) {
                return false;
            }
        }
        return true;
    }

    // What is refused

    private House houseAt(int house) {
        if (house < 0 || house >= houses.length || houses[house] == null) {
            throw new IndexOutOfBoundsException("no such house");
        }
        return houses[house];
    }

    private void refuseIfNoRoom(House home, int time, int many) {
        if (time < home.now) {
            throw new IllegalStateException("the time is below the clock");
        }
        if (home.queue.size() + many > MOST_WAITING) {
            throw new IllegalStateException("more than 48 would wait in the house");
        }
        if (ledger.size() + many > MOST_BOOKINGS) {
            throw new IllegalStateException("more than 120 bookings would have been made");
        }
    }

    private static void refuseIfNoTime(int time) {
        if (!isTime(time)) {
            throw new IllegalArgumentException("time is out of range");
        }
    }

    private static void refuseIfTurned(int from, int to) {
        if (from > to) {
            throw new IllegalArgumentException("from is above to");
        }
    }

    private static void refuseIfSame(int house, int other) {
        if (house == other) {
            throw new IllegalStateException("both houses are the same");
        }
    }

    private static int itemAt(Row row, int place) {
        if (!row.holds(place)) {
            throw new NoSuchElementException("no such place");
        }
        return row.get(place);
    }

    private static boolean isIn(int value, int least, int most) {
        return value >= least && value <= most;
    }

    private static boolean isTime(int time) {
        return isIn(time, 0, LAST_TIME);
    }

    private static boolean isSpan(int span) {
        return isIn(span, 0, MOST_SPAN);
    }

    private static boolean isWeight(int weight) {
        return isIn(weight, 1, MOST_WEIGHT);
    }

    // What is done to bookings

    private int make(House home, int time, int span, int weight) {
        int number = ledger.enter(time, span, weight);
        enqueue(home, number);
        return number;
    }

    private void enqueue(House home, int number) {
        int place = home.queue.size();
        while (place > 0 && ledger.isAhead(number, home.queue.get(place - 1))) {
            place--;
        }
        home.queue.insert(place, number);
        ledger.homes.set(number, home.number);
        ledger.states.set(number, WAITS);
    }

    private void callOffPlace(House home, int place) {
        ledger.states.set(home.queue.remove(place), CALLED_OFF);
    }

    /** All that wait in the source from a place on wait in the target then. */
    private int move(House source, int place, House target) {
        int many = source.queue.size() - place;
        // They stand by their times: if the first of them is not too early, none is.
        if (many > 0 && ledger.times.get(source.queue.get(place)) < target.now) {
            throw new IllegalStateException("a time is below the clock of the house");
        }
        if (target.queue.size() + many > MOST_WAITING) {
            throw new IllegalStateException("more than 48 would wait in the house");
        }
        for (int i = 0; i < many; i++) {
            enqueue(target, source.queue.remove(place));
        }
        return many;
    }

    private int letFirstCome(House home) {
        int number = home.queue.remove(0);
        home.past.add(number);
        home.now = ledger.times.get(number);
        home.crowd.enter(home.now, ledger.end(number), ledger.weights.get(number));
        ledger.states.set(number, CAME);
        return number;
    }

    private void bringLastBack(House home) {
        int number = home.past.remove(home.past.size() - 1);
        home.crowd.enter(ledger.times.get(number), ledger.end(number), -ledger.weights.get(number));
        enqueue(home, number);
    }

    private int waitingAheadOf(House home, int time) {
        int place = 0;
        while (place < home.queue.size() && ledger.times.get(home.queue.get(place)) < time) {
            place++;
        }
        return place;
    }

    private int cameBehind(House home, int time) {
        int first = home.past.size();
        // None came with a time below the clock, so their times never fall from one to the next.
        while (first > 0 && ledger.times.get(home.past.get(first - 1)) > time) {
            first--;
        }
        return home.past.size() - first;
    }

    // The sum

    private static long withHouse(long sum, House house) {
        long now = 31 * sum + house.now;
        now = withRow(now, house.queue);
        now = withRow(now, house.past);
        for (int i = 0; i < house.crowd.times.size(); i++) {
            now = 31 * now + house.crowd.times.get(i);
            now = 31 * now + house.crowd.changes.get(i);
        }
        return now;
    }

    private static long withRow(long sum, Row row) {
        long now = 31 * sum + row.size();
        for (int i = 0; i < row.size(); i++) {
            now = 31 * now + row.get(i);
        }
        return now;
    }

    // What is sound

    private boolean isOneThingOnce(int number) {
        int waitsIn = 0;
        int cameIn = 0;
        for (House house : houses) {
            if (house != null) {
                waitsIn += house.queue.count(number);
                cameIn += house.past.count(number);
            }
        }
        int state = ledger.states.get(number);
        return isIn(state, WAITS, CALLED_OFF)
                && waitsIn == (state == WAITS ? 1 : 0)
                && cameIn == (state == CAME ? 1 : 0);
    }

    private boolean isSplitByClock(House house) {
        for (int i = 0; i < house.queue.size(); i++) {
            int number = house.queue.get(i);
            if (ledger.times.get(number) < house.now || ledger.homes.get(number) != house.number) {
                return false;
            }
        }
        for (int i = 0; i < house.past.size(); i++) {
            int number = house.past.get(i);
            if (ledger.times.get(number) > house.now || ledger.homes.get(number) != house.number) {
                return false;
            }
        }
        return house.queue.size() <= MOST_WAITING;
    }

    private boolean standsWithAllOthers(House house) {
        for (House other : houses) {
            if (other != null && other.number > house.number
                    && !standInSequence(house.queue, other.queue)) {
                return false;
            }
        }
        return true;
    }

    /** Whether two rows, put together as they stand, make one row in sequence. */
    private boolean standInSequence(Row one, Row other) {
        int all = one.size() + other.size();
        int fromOne = 0;
        int last = -1;
        for (int i = 0; i < all; i++) {
            int fromOther = i - fromOne;
            boolean takesOne = fromOther >= other.size()
                    || (fromOne < one.size() && ledger.isAhead(one.get(fromOne), other.get(fromOther)));
            int number = takesOne ? one.get(fromOne) : other.get(fromOther);
            if (last >= 0 && !ledger.isAhead(last, number)) {
                return false;
            }
            last = number;
            fromOne += takesOne ? 1 : 0;
        }
        return true;
    }

    private boolean crowdIsOfThoseThatCame(House house) {
        rebuilt.clear();
        long sum = 0;
        for (int i = 0; i < house.past.size(); i++) {
            int number = house.past.get(i);
            int weight = ledger.weights.get(number);
            rebuilt.enter(ledger.times.get(number), ledger.end(number), weight);
            sum += weight * ledger.spans.get(number);
        }
        return rebuilt.isLike(house.crowd) && house.crowd.isLevelInTheEnd()
                && sum == house.crowd.total();
    }

    /** A row of numbers with a room that does not grow. No place that it does not hold is touched. */
    private static final class Row {
        private final int[] items;
        private int size;

        Row(int room) {
            items = new int[Math.max(room, 0)];
        }

        int size() {
            return size;
        }

        boolean holds(int place) {
            return place >= 0 && place < size && place < items.length;
        }

        int get(int place) {
            return holds(place) ? items[place] : 0;
        }

        void set(int place, int item) {
            if (holds(place)) {
                items[place] = item;
            }
        }

        void add(int item) {
            insert(size, item);
        }

        void insert(int place, int item) {
            if (place < 0 || place > size || size >= items.length) {
                return;
            }
            System.arraycopy(items, place, items, place + 1, size - place);
            items[place] = item;
            size++;
        }

        int remove(int place) {
            if (!holds(place)) {
                return 0;
            }
            int item = items[place];
            System.arraycopy(items, place + 1, items, place, size - place - 1);
            size--;
            return item;
        }

        void clear() {
            size = 0;
        }

        int placeOf(int item) {
            for (int i = 0; i < size; i++) {
                if (get(i) == item) {
                    return i;
                }
            }
            return -1;
        }

        int count(int item) {
            int found = 0;
            for (int i = 0; i < size; i++) {
                found += get(i) == item ? 1 : 0;
            }
            return found;
        }

        boolean isLike(Row other) {
            for (int i = 0; i < size; i++) {
                if (get(i) != other.get(i)) {
                    return false;
                }
            }
            return size == other.size;
        }
    }

    /** What is kept of each booking, by its number. */
    private static final class Ledger {
        private final Row times = new Row(MOST_BOOKINGS);
        private final Row spans = new Row(MOST_BOOKINGS);
        private final Row weights = new Row(MOST_BOOKINGS);
        private final Row homes = new Row(MOST_BOOKINGS);
        private final Row states = new Row(MOST_BOOKINGS);

        int size() {
            return times.size();
        }

        int enter(int time, int span, int weight) {
            times.add(time);
            spans.add(span);
            weights.add(weight);
            homes.add(0);
            states.add(WAITS);
            return times.size() - 1;
        }

        int end(int number) {
            return times.get(number) + spans.get(number);
        }

        boolean isAhead(int number, int other) {
            int time = times.get(number);
            int otherTime = times.get(other);
            return time < otherTime || (time == otherTime && number < other);
        }
    }

    private static final class House {
        private final int number;
        private final Row queue = new Row(MOST_WAITING);
        private final Row past = new Row(MOST_BOOKINGS);
        private final Crowd crowd = new Crowd();
        private int now;

        House(int number) {
            this.number = number;
        }
    }

    /** A crowd, kept as its changes by time; one that is 0 is not kept. */
    private static final class Crowd {
        private final Row times = new Row(2 * MOST_BOOKINGS);
        private final Row changes = new Row(2 * MOST_BOOKINGS);

        void clear() {
            times.clear();
            changes.clear();
        }

        boolean isEmpty() {
            return times.size() == 0;
        }

        boolean isLike(Crowd other) {
            return times.isLike(other.times) && changes.isLike(other.changes);
        }

        /** Puts a weight on at all times from begin on, up to, not with, end. */
        void enter(int begin, int end, int weight) {
            if (begin < end) {
                alter(begin, weight);
                alter(end, -weight);
            }
        }

        private void alter(int time, int by) {
            int place = times.size();
            while (place > 0 && times.get(place - 1) >= time) {
                place--;
            }
            if (place >= times.size() || times.get(place) != time) {
                times.insert(place, time);
                changes.insert(place, by);
            } else if (changes.get(place) + by == 0) {
                times.remove(place);
                changes.remove(place);
            } else {
                changes.set(place, changes.get(place) + by);
            }
        }

        int at(int time) {
            int now = 0;
            for (int i = 0; i < times.size() && times.get(i) <= time; i++) {
                now += changes.get(i);
            }
            return now;
        }

        int changeAt(int time) {
            int place = times.placeOf(time);
            return place < 0 ? 0 : changes.get(place);
        }

        int highest() {
            int now = 0;
            int most = 0;
            for (int i = 0; i < times.size(); i++) {
                now += changes.get(i);
                most = Math.max(most, now);
            }
            return most;
        }

        int highestFrom() {
            int now = 0;
            int most = 0;
            int from = 0;
            for (int i = 0; i < times.size(); i++) {
                now += changes.get(i);
                if (now > most) {
                    most = now;
                    from = times.get(i);
                }
            }
            return from;
        }

        int allBusyTimes() {
            return busyTimes(0, times.get(times.size() - 1));
        }

        int busyTimes(int from, int to) {
            int now = 0;
            int many = 0;
            for (int i = 0; i < times.size(); i++) {
                now += changes.get(i);
                int begin = Math.max(from, times.get(i));
                int end = Math.min(to, times.get(i + 1));
                if (now != 0 && begin < end) {
                    many += end - begin;
                }
            }
            return many;
        }

        int busySpans() {
            int now = 0;
            int many = 0;
            for (int i = 0; i < times.size(); i++) {
                many += now == 0 ? 1 : 0;
                now += changes.get(i);
            }
            return many;
        }

        /** The place of the change with which a busy span begins, or -1. */
        int firstChangeOf(int span) {
            int now = 0;
            int many = 0;
            for (int i = 0; i < times.size(); i++) {
                if (now == 0) {
                    if (many == span) {
                        return i;
                    }
                    many++;
                }
                now += changes.get(i);
            }
            return -1;
        }

        int endOfSpan(int first) {
            int now = 0;
            for (int i = first; i < times.size(); i++) {
                now += changes.get(i);
                if (now == 0) {
                    return times.get(i);
                }
            }
            return 0;
        }

        int highestOfSpan(int first) {
            int now = 0;
            int most = 0;
            for (int i = first; i < times.size(); i++) {
                now += changes.get(i);
                if (now == 0) {
                    return most;
                }
                most = Math.max(most, now);
            }
            return most;
        }

        int freeFrom(int from, int many) {
            int now = 0;
            int start = from;
            for (int i = 0; i < times.size(); i++) {
                now += changes.get(i);
                if (now != 0 && times.get(i) < start + many) {
                    start = Math.max(start, times.get(i + 1));
                }
            }
            return start;
        }

        long total() {
            int now = 0;
            long sum = 0;
            for (int i = 0; i < times.size(); i++) {
                now += changes.get(i);
                if (now != 0) {
                    sum += (long) now * (times.get(i + 1) - times.get(i));
                }
            }
            return sum;
        }

        boolean isLevelInTheEnd() {
            int now = 0;
            for (int i = 0; i < changes.size(); i++) {
                now += changes.get(i);
            }
            return now == 0;
        }

        /** Whether the crowd is 0 at a time and behind it: the last change ends the last busy span. */
        boolean isOverAt(int time) {
            return isEmpty() || times.get(times.size() - 1) <= time;
        }
    }
}
