import java.util.NoSuchElementException;

/**
 * Timetables that are asked for the earliest way, the last chance, and all ways that no other one beats.
 * All rows are made with the object and used again, so that no call makes anything.
 */
public final class Lastbus {
    private static final int MAX_STOPS = 12;
    private static final int MAX_SERVICES = 6;
    private static final int MAX_TRIPS = 24;
    private static final int MAX_CALLS = 8;
    private static final int MAX_DELAYS = 12;
    private static final int MAX_WISHES = 6;
    private static final int MAX_SIGNS = 80;
    private static final int MAX_CHANGE = 30;
    private static final int MAX_WALK = 60;
    private static final int MAX_LATE = 120;
    private static final int MAX_HELD = 240;
    private static final int MAX_SHIFT = 60;
    private static final int MAX_TRAVELLERS = 99;
    private static final int MAX_NUMBER = 9999;
    private static final int MAX_DIGITS = 4;
    private static final int DAYS = 28;
    private static final int WEEK = 7;
    private static final int DAY_MINUTES = 1440;
    private static final int TIMES = 2 * DAY_MINUTES;
    private static final int WALL_TIMES = 3 * DAY_MINUTES;
    private static final int MISSED_COST = 60;
    private static final int TURN_MINUTES = 5;
    private static final int CHOICE_BASE = 5000;
    private static final int SOUND_MINUTE = 480;
    /** Runs are those of three days. */
    private static final int MAX_RUNS = 3 * MAX_TRIPS;
    private static final int MAX_HOPS = MAX_RUNS * MAX_CALLS;
    /** A hop is sorted as its time times this, and its run and call: above MAX_HOPS. */
    private static final int HOP_SPAN = 1024;
    /** A minute behind all that can be; a sum of two such is still a number. */
    private static final int NEVER = 1000000;
    private static final int NONE = -1;

    private final Stops stops;
    private final Services services;
    private final Trips trips;
    private final Delays delays;
    private final Row row;
    private final Net net;
    private final Search search;
    private final Rounds rounds;
    private final Wishes wishes;
    private final Fleet fleet;
    /** From each stop to each one, as found last by fillArrivals. */
    private final int[][] arrivals;

    public Lastbus() {
        stops = new Stops();
        services = new Services();
        trips = new Trips();
        delays = new Delays();
        row = new Row();
        net = new Net(stops, services, trips, delays);
        search = new Search(stops, net);
        rounds = new Rounds(stops, net);
        wishes = new Wishes(stops, services, trips, delays);
        fleet = new Fleet();
        arrivals = new int[MAX_STOPS][MAX_STOPS];
    }

    // Stops and walks

    public int stop(int change) throws IllegalArgumentException, IllegalStateException {
        needNumber(change, 0, MAX_CHANGE);
        if (stops.count >= MAX_STOPS) {
            throw new IllegalStateException("there are 12 stops");
        }
        return stops.add(change);
    }

    public int setChange(int stop, int change) throws IndexOutOfBoundsException, IllegalArgumentException {
        needStop(stop);
        needNumber(change, 0, MAX_CHANGE);
        int ahead = stops.change[stop];
        stops.change[stop] = change;
        return ahead;
    }

    public int walk(int stop, int other, int minutes) throws IndexOutOfBoundsException, IllegalArgumentException {
        needStop(stop);
        needStop(other);
        needUnlike(stop, other);
        needNumber(minutes, 0, MAX_WALK);
        int ahead = stops.told[stop][other];
        stops.told[stop][other] = minutes;
        stops.told[other][stop] = minutes;
        return ahead;
    }

    public int walkTime(int stop, int other) throws IndexOutOfBoundsException, NoSuchElementException {
        needStop(stop);
        needStop(other);
        if (stop == other) {
            return 0;
        }
        stops.link(NONE);
        needFound(stops.walk[stop][other]);
        return stops.walk[stop][other];
    }

    // Services and trips

    public int service() throws IllegalStateException {
        if (services.count >= MAX_SERVICES) {
            throw new IllegalStateException("there are 6 services");
        }
        return services.add();
    }

    public int week(int service, int days, int from, int to)
            throws IndexOutOfBoundsException, IllegalArgumentException {
        needService(service);
        needNumber(days, 0, (1 << WEEK) - 1);
        needDay(from);
        needDay(to);
        if (to < from) {
            throw new IllegalArgumentException("the last day is ahead of the first one");
        }
        for (int day = from; day <= to; day++) {
            if ((days >> (day % WEEK) & 1) == 1) {
                services.put(service, day, true);
            }
        }
        return Integer.bitCount(services.days[service]);
    }

    public boolean putDay(int service, int day, boolean isOn)
            throws IndexOutOfBoundsException, IllegalArgumentException {
        needService(service);
        needDay(day);
        boolean ahead = services.isOn(service, day);
        services.put(service, day, isOn);
        return ahead;
    }

    public boolean runsOn(int service, int day) throws IndexOutOfBoundsException, IllegalArgumentException {
        needService(service);
        needDay(day);
        return services.isOn(service, day);
    }

    public int nextDay(int service, int day)
            throws IndexOutOfBoundsException, IllegalArgumentException, NoSuchElementException {
        needService(service);
        needDay(day);
        int next = services.firstFrom(service, day);
        if (next == NONE) {
            throw new NoSuchElementException("it runs on no day from there on");
        }
        return next;
    }

    public int trip(int service, int stop, int departure)
            throws IndexOutOfBoundsException, IllegalArgumentException, IllegalStateException {
        needService(service);
        needStop(stop);
        needNumber(departure, 0, TIMES - 1);
        needRoomForTrip();
        return trips.begin(service, stop, departure);
    }

    public int call(int trip, int stop, int arrival, int departure)
            throws IndexOutOfBoundsException, IllegalArgumentException, IllegalStateException {
        needTrip(trip);
        needStop(stop);
        int ahead = trips.length[trip] - 1;
        if (!goesOn(trips.leave[trip][ahead], arrival, departure)) {
            throw new IllegalArgumentException("the times are not as told");
        }
        needUnlike(stop, trips.stop[trip][ahead]);
        if (trips.length[trip] >= MAX_CALLS) {
            throw new IllegalStateException("it has 8 calls");
        }
        trips.add(trip, stop, arrival, departure);
        return trips.length[trip];
    }

    public int trips() {
        return trips.count;
    }

    public int calls(int trip) throws IndexOutOfBoundsException {
        needTrip(trip);
        return trips.length[trip];
    }

    public int stopAt(int trip, int call) throws IndexOutOfBoundsException {
        needCall(trip, call);
        return trips.stop[trip][call];
    }

    public int timeAt(int trip, int call, boolean isArrival) throws IndexOutOfBoundsException {
        needCall(trip, call);
        return isArrival ? trips.arrive[trip][call] : trips.leave[trip][call];
    }

    public int shift(int trip, int minutes) throws IndexOutOfBoundsException, IllegalArgumentException {
        needTrip(trip);
        needShift(trip, minutes);
        trips.move(trip, minutes);
        return trips.leave[trip][0];
    }

    // Texts

    public int type(char sign) throws IllegalStateException {
        needRoomForSigns(1);
        return row.put(sign);
    }

    public int typeNumber(int number) throws IllegalArgumentException, IllegalStateException {
        needNumber(number, 0, MAX_NUMBER);
        needRoomForSigns(number > 999 ? 4 : number > 99 ? 3 : number > 9 ? 2 : 1);
        return row.putNumber(number);
    }

    public int erase() {
        return row.empty();
    }

    public int readRow() throws IllegalArgumentException, UnsupportedOperationException, IllegalStateException {
        if (!row.read()) {
            throw new IllegalArgumentException("it is no table row");
        }
        if (!rowFits()) {
            throw new UnsupportedOperationException("there is no such service or stop, or the calls do not fit");
        }
        needRoomForTrip();
        int trip = trips.begin(row.service, row.stop[0], row.leave[0]);
        for (int call = 1; call < row.calls; call++) {
            trips.add(trip, row.stop[call], row.arrive[call], row.leave[call]);
        }
        row.empty();
        return trip;
    }

    public int faultAt() throws NoSuchElementException {
        if (row.fault == NONE) {
            throw new NoSuchElementException("there was no fault");
        }
        return row.fault;
    }

    // Lateness

    public int late(int day, int trip, int call, int minutes)
            throws IndexOutOfBoundsException, IllegalArgumentException, IllegalStateException {
        needCall(trip, call);
        needDay(day);
        needNumber(minutes, 0, MAX_LATE);
        int entry = delays.find(day, trip);
        int ahead = entry == NONE ? 0 : delays.minutes[entry];
        if (minutes == 0) {
            delays.remove(entry);
            return ahead;
        }
        if (entry == NONE && delays.count >= MAX_DELAYS) {
            throw new IllegalStateException("12 are told");
        }
        delays.put(entry, day, trip, call, minutes);
        return ahead;
    }

    public int lateness(int day, int trip, int call) throws IndexOutOfBoundsException, IllegalArgumentException {
        needCall(trip, call);
        needDay(day);
        return delays.at(delays.find(day, trip), call);
    }

    public int onTime() {
        int told = delays.count;
        delays.count = 0;
        return told;
    }

    // Ways

    public int earliest(int from, int to, int day, int minute)
            throws IndexOutOfBoundsException, IllegalArgumentException, NoSuchElementException {
        needWay(from, to, day, minute);
        net.lay(day, NONE, 0);
        search.scan(from, minute);
        needFound(search.labels.at(to));
        return search.labels.at(to);
    }

    public int earliestByQueue(int from, int to, int day, int minute)
            throws IndexOutOfBoundsException, IllegalArgumentException, NoSuchElementException {
        needWay(from, to, day, minute);
        net.lay(day, NONE, 0);
        search.goOnFromNearest(from, minute);
        needFound(search.labels.at(to));
        return search.labels.at(to);
    }

    public int earliestByRounds(int from, int to, int day, int minute)
            throws IndexOutOfBoundsException, IllegalArgumentException, NoSuchElementException {
        needWay(from, to, day, minute);
        net.lay(day, NONE, 0);
        rounds.fill(from, minute);
        needFound(rounds.least(to));
        return rounds.least(to);
    }

    public int wall(int from, int day, int minute, int before)
            throws IndexOutOfBoundsException, IllegalArgumentException {
        needStop(from);
        needDay(day);
        needNumber(minute, 0, DAY_MINUTES - 1);
        needNumber(before, 0, WALL_TIMES - 1);
        net.lay(day, NONE, 0);
        search.scan(from, minute);
        int sum = 0;
        for (int stop = 0; stop < stops.count; stop++) {
            if (search.labels.at(stop) < before) {
                sum |= 1 << stop;
            }
        }
        return sum;
    }

    public int last(int from, int to, int day, int minute)
            throws IndexOutOfBoundsException, IllegalArgumentException, NoSuchElementException {
        needStop(from);
        needStop(to);
        needDay(day);
        needNumber(minute, 0, TIMES - 1);
        net.lay(day, NONE, 0);
        int leave = search.lastLeave(from, to, minute);
        if (leave < 0) {
            throw new NoSuchElementException("there is no such minute");
        }
        return leave;
    }

    public int chain(int from, int to, int day, int minute)
            throws IndexOutOfBoundsException, IllegalArgumentException, NoSuchElementException {
        needWay(from, to, day, minute);
        net.lay(day, NONE, 0);
        rounds.fill(from, minute);
        needFound(rounds.least(to));
        rounds.keepChain(to);
        return rounds.rides;
    }

    public int ride(int index, char what) throws IllegalArgumentException, NoSuchElementException {
        if (what != 't' && what != 'd' && what != 'o' && what != 'f') {
            throw new IllegalArgumentException("there is no such letter");
        }
        if (index < 0 || index >= rounds.rides) {
            throw new NoSuchElementException("there is no such ride");
        }
        if (what == 't') {
            return rounds.rideTrip[index];
        }
        if (what == 'd') {
            return rounds.rideDay[index];
        }
        return what == 'o' ? rounds.rideOn[index] : rounds.rideOff[index];
    }

    public int onBoard(int day, int trip, int call, int to)
            throws IndexOutOfBoundsException, IllegalArgumentException, UnsupportedOperationException,
            NoSuchElementException {
        needCall(trip, call);
        needStop(to);
        needDay(day);
        needRun(trip, day);
        if (call == trips.length[trip] - 1) {
            throw new UnsupportedOperationException("this is its last call");
        }
        net.lay(day, NONE, 0);
        search.scanOnBoard(trip, call);
        needFound(search.labels.at(to));
        return search.labels.at(to);
    }

    // Pairs and choices

    public int pairs(int from, int to, int day) throws IndexOutOfBoundsException, IllegalArgumentException {
        findPairs(from, to, day);
        return search.pairs;
    }

    public int pair(int from, int to, int day, int index, boolean isArrival)
            throws IndexOutOfBoundsException, IllegalArgumentException, NoSuchElementException {
        findPairs(from, to, day);
        if (index < 0 || index >= search.pairs) {
            throw new NoSuchElementException("there is no such pair");
        }
        return isArrival ? search.pairArrive[index] : search.pairLeave[index];
    }

    public int byPairs(int from, int to, int day, int minute)
            throws IndexOutOfBoundsException, IllegalArgumentException, NoSuchElementException {
        needWay(from, to, day, minute);
        if (from == to) {
            return minute;
        }
        net.lay(day, NONE, 0);
        search.collectPairs(from, to);
        int found = Math.min(search.pairArrivalFrom(minute), minute + stops.walk[from][to]);
        needFound(found);
        return found;
    }

    public int choices(int from, int to, int day, int minute)
            throws IndexOutOfBoundsException, IllegalArgumentException {
        needWay(from, to, day, minute);
        net.lay(day, NONE, 0);
        rounds.fill(from, minute);
        int count = 0;
        for (int round = 0; round <= rounds.last; round++) {
            if (rounds.isChoice(round, to)) {
                count++;
            }
        }
        return count;
    }

    public int choice(int from, int to, int day, int minute, int index)
            throws IndexOutOfBoundsException, IllegalArgumentException, NoSuchElementException {
        needWay(from, to, day, minute);
        net.lay(day, NONE, 0);
        rounds.fill(from, minute);
        int left = index;
        for (int round = 0; round <= rounds.last && left >= 0; round++) {
            if (rounds.isChoice(round, to)) {
                if (left == 0) {
                    return CHOICE_BASE * round + rounds.rows[round].at(to);
                }
                left--;
            }
        }
        throw new NoSuchElementException("there is no such choice");
    }

    // Changes and waiting

    public boolean holds(int day, int trip, int call, int other, int otherCall)
            throws IndexOutOfBoundsException, IllegalArgumentException, UnsupportedOperationException,
            NoSuchElementException {
        needCall(trip, call);
        needCall(other, otherCall);
        needDay(day);
        needChange(trip, call, other, otherCall);
        needRun(trip, day);
        needRun(other, day);
        int between = minutesBetween(trips.stop[trip][call], trips.stop[other][otherCall]);
        needFound(between);
        int arrival = trips.arrive[trip][call] + delays.at(delays.find(day, trip), call - 1);
        int departure = trips.leave[other][otherCall] + delays.at(delays.find(day, other), otherCall);
        return arrival + between <= departure;
    }

    public int wish(int trip, int call, int other, int otherCall, int travellers)
            throws IndexOutOfBoundsException, IllegalArgumentException, UnsupportedOperationException,
            IllegalStateException {
        needCall(trip, call);
        needCall(other, otherCall);
        needChange(trip, call, other, otherCall);
        needNumber(travellers, 1, MAX_TRAVELLERS);
        if (trips.stop[trip][call] != trips.stop[other][otherCall]) {
            throw new UnsupportedOperationException("the stops are not the same");
        }
        if (wishes.count >= MAX_WISHES) {
            throw new IllegalStateException("there are 6 wishes");
        }
        return wishes.add(trip, call, other, otherCall, travellers);
    }

    public int dropWishes() {
        int dropped = wishes.count;
        wishes.count = 0;
        return dropped;
    }

    public int waitCost(int day, int mask) throws IllegalArgumentException, NoSuchElementException {
        needDay(day);
        needNumber(mask, 0, (1 << wishes.count) - 1);
        int cost = costOfWaits(day, mask);
        needFound(cost);
        return cost;
    }

    public int bestWaits(int day) throws IllegalArgumentException {
        needDay(day);
        int best = 0;
        int least = costOfWaits(day, 0);
        for (int mask = 1; mask < 1 << wishes.count; mask++) {
            int cost = costOfWaits(day, mask);
            if (cost < least) {
                least = cost;
                best = mask;
            }
        }
        return best;
    }

    // Cuts, vehicles, shifts

    public int lost(int stop, int day) throws IndexOutOfBoundsException, IllegalArgumentException {
        needStop(stop);
        needDay(day);
        net.lay(day, NONE, 0);
        fillArrivals(0);
        return countCutOff(stop);
    }

    public int bridges(int day) throws IllegalArgumentException {
        needDay(day);
        net.lay(day, NONE, 0);
        fillArrivals(0);
        int sum = 0;
        for (int stop = 0; stop < stops.count; stop++) {
            if (countCutOff(stop) > 0) {
                sum |= 1 << stop;
            }
        }
        return sum;
    }

    public int vehicles(int day) throws IllegalArgumentException {
        needDay(day);
        fleet.gather(services, trips, day);
        return fleet.countByTimes(stops.count);
    }

    public int vehiclesByMatching(int day) throws IllegalArgumentException {
        needDay(day);
        fleet.gather(services, trips, day);
        return fleet.countByMatching();
    }

    public int gains(int trip, int minutes, int day, int minute)
            throws IndexOutOfBoundsException, IllegalArgumentException {
        needTrip(trip);
        needShift(trip, minutes);
        needDay(day);
        needNumber(minute, 0, DAY_MINUTES - 1);
        fillArrivalsAndShift(trip, minutes, day, minute);
        return countMoved(minute, true);
    }

    public int loses(int trip, int minutes, int day, int minute)
            throws IndexOutOfBoundsException, IllegalArgumentException {
        needTrip(trip);
        needShift(trip, minutes);
        needDay(day);
        needNumber(minute, 0, DAY_MINUTES - 1);
        fillArrivalsAndShift(trip, minutes, day, minute);
        return countMoved(minute, false);
    }

    // Figures

    public float reachShare(int day) throws IllegalArgumentException, ArithmeticException {
        needDay(day);
        int all = stops.count * (stops.count - 1);
        if (all == 0) {
            throw new ArithmeticException("there are fewer than two stops");
        }
        net.lay(day, NONE, 0);
        fillArrivals(0);
        int reached = 0;
        for (int from = 0; from < stops.count; from++) {
            for (int to = 0; to < stops.count; to++) {
                if (from != to && arrivals[from][to] < NEVER) {
                    reached++;
                }
            }
        }
        return (float) reached / (float) all;
    }

    public double meanBetween() throws ArithmeticException {
        int minutes = 0;
        int count = 0;
        for (int trip = 0; trip < trips.count; trip++) {
            for (int call = 1; call < trips.length[trip]; call++) {
                minutes += trips.arrive[trip][call] - trips.leave[trip][call - 1];
                count++;
            }
        }
        if (count == 0) {
            throw new ArithmeticException("there are no two calls of a trip");
        }
        return (double) minutes / (double) count;
    }

    public long checksum() {
        long sum = stops.addTo(7L);
        sum = trips.addTo(sum);
        sum = services.addTo(sum);
        return 31L * sum + row.length;
    }

    public boolean isSound(int day) throws IllegalArgumentException {
        needDay(day);
        net.lay(day, NONE, 0);
        if (stops.count > 0 && !waysAreSound()) {
            return false;
        }
        if (stops.count > 1 && !pairsAreSound(stops.count - 1)) {
            return false;
        }
        fleet.gather(services, trips, day);
        return fleet.countByTimes(stops.count) == fleet.countByMatching();
    }

    // What calls need

    private static void needNumber(int number, int least, int greatest) {
        if (number < least || number > greatest) {
            throw new IllegalArgumentException("a number is out of range");
        }
    }

    private static void needDay(int day) {
        needNumber(day, 0, DAYS - 1);
    }

    private static void needUnlike(int one, int other) {
        if (one == other) {
            throw new IllegalArgumentException("both are the same");
        }
    }

    private static void needFound(int found) {
        if (found >= NEVER) {
            throw new NoSuchElementException("there is none");
        }
    }

    private void needStop(int stop) {
        if (!stops.has(stop)) {
            throw new IndexOutOfBoundsException("there is no such stop");
        }
    }

    private void needService(int service) {
        if (!services.has(service)) {
            throw new IndexOutOfBoundsException("there is no such service");
        }
    }

    private void needTrip(int trip) {
        if (!trips.has(trip)) {
            throw new IndexOutOfBoundsException("there is no such trip");
        }
    }

    private void needCall(int trip, int call) {
        needTrip(trip);
        if (call < 0 || call >= trips.length[trip]) {
            throw new IndexOutOfBoundsException("there is no such call");
        }
    }

    private void needRun(int trip, int day) {
        if (!services.isOn(trips.service[trip], day)) {
            throw new UnsupportedOperationException("it does not run on that day");
        }
    }

    private void needWay(int from, int to, int day, int minute) {
        needStop(from);
        needStop(to);
        needDay(day);
        needNumber(minute, 0, DAY_MINUTES - 1);
    }

    private void needChange(int trip, int call, int other, int otherCall) {
        needUnlike(trip, other);
        if (call == 0 || otherCall == trips.length[other] - 1) {
            throw new IllegalArgumentException("a call is not as told");
        }
    }

    private void needShift(int trip, int minutes) {
        needNumber(minutes, -MAX_SHIFT, MAX_SHIFT);
        // Times rise along a trip, so that its first and its last one tell for all.
        needNumber(trips.leave[trip][0] + minutes, 0, TIMES - 1);
        needNumber(trips.leave[trip][trips.length[trip] - 1] + minutes, 0, TIMES - 1);
    }

    private void needRoomForTrip() {
        if (trips.count >= MAX_TRIPS) {
            throw new IllegalStateException("there are 24 trips");
        }
    }

    private void needRoomForSigns(int signs) {
        if (row.length + signs > MAX_SIGNS) {
            throw new IllegalStateException("more than 80 signs would be typed");
        }
    }

    // What several calls do

    /** Tells whether a call with these times can stand behind one with this departure. */
    private static boolean goesOn(int ahead, int arrival, int departure) {
        return arrival > ahead && departure >= arrival && departure < TIMES;
    }

    private boolean rowFits() {
        if (!services.has(row.service) || row.calls > MAX_CALLS) {
            return false;
        }
        for (int call = 0; call < row.calls; call++) {
            if (!stops.has(row.stop[call])) {
                return false;
            }
            if (call > 0 && row.stop[call] == row.stop[call - 1]) {
                return false;
            }
            int ahead = call == 0 ? -1 : row.leave[call - 1];
            if (!goesOn(ahead, row.arrive[call], row.leave[call])) {
                return false;
            }
        }
        return true;
    }

    private int minutesBetween(int stop, int other) {
        if (stop == other) {
            return stops.change[stop];
        }
        stops.link(NONE);
        return stops.walk[stop][other];
    }

    private void findPairs(int from, int to, int day) {
        needStop(from);
        needStop(to);
        needUnlike(from, to);
        needDay(day);
        net.lay(day, NONE, 0);
        search.collectPairs(from, to);
    }

    private int costOfWaits(int day, int mask) {
        return wishes.spread(day, mask) ? wishes.cost(day, mask) : NEVER;
    }

    private void fillArrivals(int minute) {
        for (int from = 0; from < stops.count; from++) {
            search.scan(from, minute);
            for (int to = 0; to < stops.count; to++) {
                arrivals[from][to] = search.labels.at(to);
            }
        }
    }

    private int countCutOff(int cut) {
        stops.link(cut);
        int count = 0;
        for (int from = 0; from < stops.count; from++) {
            if (from != cut) {
                search.scan(from, 0);
                count += countCutOffFrom(from, cut);
            }
        }
        stops.link(NONE);
        return count;
    }

    private int countCutOffFrom(int from, int cut) {
        int count = 0;
        for (int to = 0; to < stops.count; to++) {
            boolean isOther = to != cut && to != from;
            if (isOther && arrivals[from][to] < NEVER && search.labels.at(to) >= NEVER) {
                count++;
            }
        }
        return count;
    }

    private void fillArrivalsAndShift(int trip, int minutes, int day, int minute) {
        net.lay(day, NONE, 0);
        fillArrivals(minute);
        net.lay(day, trip, minutes);
    }

    private int countMoved(int minute, boolean isEarlier) {
        int count = 0;
        for (int from = 0; from < stops.count; from++) {
            search.scan(from, minute);
            for (int to = 0; to < stops.count; to++) {
                int then = search.labels.at(to);
                if (isEarlier ? then < arrivals[from][to] : then > arrivals[from][to]) {
                    count++;
                }
            }
        }
        return count;
    }

    private boolean waysAreSound() {
        search.scan(0, SOUND_MINUTE);
        int[] found = arrivals[0];
        for (int stop = 0; stop < stops.count; stop++) {
            found[stop] = search.labels.at(stop);
        }
        search.goOnFromNearest(0, SOUND_MINUTE);
        rounds.fill(0, SOUND_MINUTE);
        for (int stop = 0; stop < stops.count; stop++) {
            if (search.labels.at(stop) != found[stop] || rounds.least(stop) != found[stop]) {
                return false;
            }
        }
        for (int stop = 0; stop < stops.count; stop++) {
            if (found[stop] < NEVER && !lastIsSound(stop, found[stop])) {
                return false;
            }
        }
        return true;
    }

    private boolean lastIsSound(int stop, int by) {
        int leave = search.lastLeave(0, stop, by);
        if (leave < 0) {
            return false;
        }
        search.scan(0, leave);
        boolean isInTime = search.labels.at(stop) <= by;
        search.scan(0, leave + 1);
        return isInTime && search.labels.at(stop) > by;
    }

    private boolean pairsAreSound(int to) {
        search.collectPairs(0, to);
        for (int index = 1; index < search.pairs; index++) {
            boolean leavesLater = search.pairLeave[index] > search.pairLeave[index - 1];
            if (!leavesLater || search.pairArrive[index] <= search.pairArrive[index - 1]) {
                return false;
            }
        }
        int byPair = search.pairArrivalFrom(SOUND_MINUTE);
        search.scan(0, SOUND_MINUTE);
        return Math.min(byPair, SOUND_MINUTE + stops.walk[0][to]) == search.labels.at(to)
                || byPair >= NEVER && search.labels.at(to) >= NEVER;
    }

    /** Sorts numbers by rising, from pieces of one that are put together to greater ones. */
    private static void sortUp(int[] keys, int[] spare, int count) {
        for (int width = 1; width < count; width *= 2) {
            for (int low = 0; low < count; low += 2 * width) {
                int middle = Math.min(low + width, count);
                merge(keys, spare, low, middle, Math.min(middle + width, count));
            }
            System.arraycopy(spare, 0, keys, 0, count);
        }
    }

    private static void merge(int[] keys, int[] spare, int low, int middle, int high) {
        int left = low;
        int right = middle;
        for (int at = low; at < high; at++) {
            if (left < middle && (right >= high || keys[left] <= keys[right])) {
                spare[at] = keys[left];
                left++;
            } else {
                spare[at] = keys[right];
                right++;
            }
        }
    }

    /** The stops, and the walks between them, as told and as least sums. */
    private static final class Stops {
        int count;
        final int[] change = new int[MAX_STOPS];
        /** 0 for none. */
        final int[][] told = new int[MAX_STOPS][MAX_STOPS];
        /** NEVER for none; also for a stop to itself, so that nobody evades the minutes for changing by it. */
        final int[][] walk = new int[MAX_STOPS][MAX_STOPS];
        /** The stop that is as if it was not there. */
        int cut = NONE;

        boolean has(int stop) {
            return stop >= 0 && stop < count;
        }

        int add(int minutes) {
            change[count] = minutes;
            count++;
            return count - 1;
        }

        /** Finds the least sums of told walks without one stop. */
        void link(int without) {
            cut = without;
            for (int stop = 0; stop < count; stop++) {
                for (int other = 0; other < count; other++) {
                    boolean isTold = told[stop][other] > 0 && stop != cut && other != cut;
                    walk[stop][other] = isTold ? told[stop][other] : NEVER;
                }
            }
            for (int via = 0; via < count; via++) {
                for (int stop = 0; stop < count; stop++) {
                    if (walk[stop][via] < NEVER) {
                        linkVia(stop, via);
                    }
                }
            }
        }

        private void linkVia(int stop, int via) {
            for (int other = 0; other < count; other++) {
                int sum = walk[stop][via] + walk[via][other];
                if (other != stop && sum < walk[stop][other]) {
                    walk[stop][other] = sum;
                }
            }
        }

        long addTo(long sum) {
            long then = sum;
            for (int stop = 0; stop < count; stop++) {
                then = 31L * then + change[stop];
            }
            return then;
        }
    }

    /** The services, each with a bit for each day. */
    private static final class Services {
        int count;
        final int[] days = new int[MAX_SERVICES];

        boolean has(int service) {
            return service >= 0 && service < count;
        }

        int add() {
            days[count] = 0;
            count++;
            return count - 1;
        }

        void put(int service, int day, boolean isOn) {
            int bit = 1 << day;
            days[service] = isOn ? days[service] | bit : days[service] & ~bit;
        }

        boolean isOn(int service, int day) {
            return day >= 0 && day < DAYS && (days[service] >> day & 1) == 1;
        }

        int firstFrom(int service, int day) {
            for (int next = day; next < DAYS; next++) {
                if (isOn(service, next)) {
                    return next;
                }
            }
            return NONE;
        }

        long addTo(long sum) {
            long then = sum;
            for (int service = 0; service < count; service++) {
                for (int day = 0; day < DAYS; day++) {
                    then = 31L * then + (isOn(service, day) ? 1 : 0);
                }
            }
            return then;
        }
    }

    /** The trips with their calls, without lateness. */
    private static final class Trips {
        int count;
        final int[] service = new int[MAX_TRIPS];
        final int[] length = new int[MAX_TRIPS];
        final int[][] stop = new int[MAX_TRIPS][MAX_CALLS];
        /** The arrival of the call 0 is its departure. */
        final int[][] arrive = new int[MAX_TRIPS][MAX_CALLS];
        final int[][] leave = new int[MAX_TRIPS][MAX_CALLS];

        boolean has(int trip) {
            return trip >= 0 && trip < count;
        }

        int begin(int ofService, int at, int departure) {
            service[count] = ofService;
            length[count] = 0;
            add(count, at, departure, departure);
            count++;
            return count - 1;
        }

        void add(int trip, int at, int arrival, int departure) {
            int call = length[trip];
            stop[trip][call] = at;
            arrive[trip][call] = arrival;
            leave[trip][call] = departure;
            length[trip]++;
        }

        void move(int trip, int minutes) {
            for (int call = 0; call < length[trip]; call++) {
                arrive[trip][call] += minutes;
                leave[trip][call] += minutes;
            }
        }

        long addTo(long sum) {
            long then = sum;
            for (int trip = 0; trip < count; trip++) {
                then = 31L * then + service[trip];
                for (int call = 0; call < length[trip]; call++) {
                    then = 31L * then + stop[trip][call];
                    then = 31L * then + arrive[trip][call];
                    then = 31L * then + leave[trip][call];
                }
            }
            return then;
        }
    }

    /** What is told as late: an entry for each trip and day. */
    private static final class Delays {
        int count;
        final int[] day = new int[MAX_DELAYS];
        final int[] trip = new int[MAX_DELAYS];
        final int[] call = new int[MAX_DELAYS];
        final int[] minutes = new int[MAX_DELAYS];

        int find(int onDay, int ofTrip) {
            for (int entry = 0; entry < count; entry++) {
                if (day[entry] == onDay && trip[entry] == ofTrip) {
                    return entry;
                }
            }
            return NONE;
        }

        /** The lateness of the departure of a call by an entry, or by none. */
        int at(int entry, int ofCall) {
            return entry == NONE || ofCall < call[entry] ? 0 : minutes[entry];
        }

        void put(int entry, int onDay, int ofTrip, int ofCall, int told) {
            int place = entry == NONE ? count : entry;
            day[place] = onDay;
            trip[place] = ofTrip;
            call[place] = ofCall;
            minutes[place] = told;
            if (place == count) {
                count++;
            }
        }

        void remove(int entry) {
            if (entry == NONE) {
                return;
            }
            count--;
            day[entry] = day[count];
            trip[entry] = trip[count];
            call[entry] = call[count];
            minutes[entry] = minutes[count];
        }
    }

    /** The typed text, and the table row that was read from it. */
    private static final class Row {
        final char[] signs = new char[MAX_SIGNS];
        int length;
        int fault = NONE;
        int service;
        /** May be above MAX_CALLS: calls behind those are only counted. */
        int calls;
        final int[] stop = new int[MAX_CALLS];
        final int[] arrive = new int[MAX_CALLS];
        final int[] leave = new int[MAX_CALLS];
        /** The place of the next sign to read. */
        private int at;
        /** The number that was read last. */
        private int number;

        int put(char sign) {
            signs[length] = sign;
            length++;
            return length;
        }

        int putNumber(int value) {
            if (value > 999) {
                putDigit(value / 1000);
            }
            if (value > 99) {
                putDigit(value / 100);
            }
            if (value > 9) {
                putDigit(value / 10);
            }
            return putDigit(value);
        }

        private int putDigit(int value) {
            return put((char) ('0' + value % 10));
        }

        int empty() {
            int had = length;
            length = 0;
            return had;
        }

        /** Reads the text; keeps the place of the fault if it is no row. */
        boolean read() {
            at = 0;
            calls = 0;
            boolean isRow = readFirst();
            for (int turn = 0; turn < MAX_SIGNS && isRow && at < length; turn++) {
                isRow = readNext();
            }
            if (!isRow) {
                fault = at;
            }
            return isRow;
        }

        private boolean readFirst() {
            if (!readNumber()) {
                return false;
            }
            service = number;
            if (!readSign(':') || !readNumber()) {
                return false;
            }
            int place = number;
            if (!readSign('@') || !readNumber()) {
                return false;
            }
            keep(place, number, number);
            return true;
        }

        private boolean readNext() {
            if (!readSign(',') || !readNumber()) {
                return false;
            }
            int place = number;
            if (!readSign('@') || !readNumber()) {
                return false;
            }
            int arrival = number;
            if (readSign('-') && !readNumber()) {
                return false;
            }
            keep(place, arrival, number);
            return true;
        }

        private boolean readSign(char sign) {
            if (at >= length || signs[at] != sign) {
                return false;
            }
            at++;
            return true;
        }

        private boolean readNumber() {
            number = 0;
            int digits = 0;
            while (digits < MAX_DIGITS && at < length && signs[at] >= '0' && signs[at] <= '9') {
                number = 10 * number + (signs[at] - '0');
                at++;
                digits++;
            }
            return digits > 0;
        }

        private void keep(int place, int arrival, int departure) {
            if (calls < MAX_CALLS) {
                stop[calls] = place;
                arrive[calls] = arrival;
                leave[calls] = departure;
            }
            calls++;
        }
    }

    /** The runs of a day that is asked, and their hops from a call to the next one. */
    private static final class Net {
        private final Stops stops;
        private final Services services;
        private final Trips trips;
        private final Delays delays;
        int runs;
        final int[] tripOf = new int[MAX_RUNS];
        /** The day of a run less the day that is asked. */
        final int[] dayOf = new int[MAX_RUNS];
        final int[] length = new int[MAX_RUNS];
        final int[][] stop = new int[MAX_RUNS][MAX_CALLS];
        final int[][] arrive = new int[MAX_RUNS][MAX_CALLS];
        final int[][] leave = new int[MAX_RUNS][MAX_CALLS];
        int hops;
        final int[] byLeave = new int[MAX_HOPS];
        final int[] byArrive = new int[MAX_HOPS];
        private final int[] spare = new int[MAX_HOPS];

        Net(Stops stops, Services services, Trips trips, Delays delays) {
            this.stops = stops;
            this.services = services;
            this.trips = trips;
            this.delays = delays;
        }

        /** Lays the runs of a day, as if one trip, or none, was shifted. */
        void lay(int day, int shifted, int minutes) {
            stops.link(NONE);
            runs = 0;
            hops = 0;
            for (int ahead = -1; ahead <= 1; ahead++) {
                for (int trip = 0; trip < trips.count; trip++) {
                    if (services.isOn(trips.service[trip], day + ahead)) {
                        int moved = trip == shifted ? minutes : 0;
                        addRun(trip, ahead, delays.find(day + ahead, trip), DAY_MINUTES * ahead + moved);
                    }
                }
            }
            sortUp(byLeave, spare, hops);
            sortUp(byArrive, spare, hops);
        }

        private void addRun(int trip, int ahead, int delay, int moved) {
            int run = runs;
            runs++;
            tripOf[run] = trip;
            dayOf[run] = ahead;
            length[run] = trips.length[trip];
            for (int call = 0; call < length[run]; call++) {
                stop[run][call] = trips.stop[trip][call];
                arrive[run][call] = trips.arrive[trip][call] + moved + delays.at(delay, call - 1);
                leave[run][call] = trips.leave[trip][call] + moved + delays.at(delay, call);
                if (call > 0) {
                    addHop(run, call - 1);
                }
            }
        }

        /** A hop that leaves below 0 is no hop: nobody can get on there, and nobody has got on ahead. */
        private void addHop(int run, int call) {
            if (leave[run][call] < 0) {
                return;
            }
            int hop = run * MAX_CALLS + call;
            byLeave[hops] = leave[run][call] * HOP_SPAN + hop;
            byArrive[hops] = arrive[run][call + 1] * HOP_SPAN + hop;
            hops++;
        }

        static int runOf(int key) {
            return key % HOP_SPAN / MAX_CALLS;
        }

        static int callOf(int key) {
            return key % MAX_CALLS;
        }
    }

    /** The earliest minutes at the stops, by a ride and otherwise: only behind a ride it takes minutes to change. */
    private static final class Labels {
        private final Stops stops;
        final int[] rode = new int[MAX_STOPS];
        /** Behind a walk, or at the beginning. */
        final int[] stood = new int[MAX_STOPS];

        Labels(Stops stops) {
            this.stops = stops;
        }

        void clear() {
            for (int stop = 0; stop < stops.count; stop++) {
                rode[stop] = NEVER;
                stood[stop] = NEVER;
            }
        }

        void copy(Labels other) {
            for (int stop = 0; stop < stops.count; stop++) {
                rode[stop] = other.rode[stop];
                stood[stop] = other.stood[stop];
            }
        }

        void begin(int from, int minute) {
            clear();
            stood[from] = minute;
            walkOn(from, minute);
        }

        boolean canGetOn(int stop, int leave) {
            return leave >= 0 && (stood[stop] <= leave || rode[stop] + stops.change[stop] <= leave);
        }

        /** Tells whether one is there by a ride earlier than before. */
        boolean getOff(int stop, int minute) {
            if (stop == stops.cut || minute >= rode[stop]) {
                return false;
            }
            rode[stop] = minute;
            walkOn(stop, minute);
            return true;
        }

        private void walkOn(int stop, int minute) {
            for (int other = 0; other < stops.count; other++) {
                int there = minute + stops.walk[stop][other];
                if (there < stood[other]) {
                    stood[other] = there;
                }
            }
        }

        int at(int stop) {
            return Math.min(rode[stop], stood[stop]);
        }

        /** The earliest arrival by ways with a ride at least. */
        int atByRides(int to) {
            int least = rode[to];
            for (int stop = 0; stop < stops.count; stop++) {
                least = Math.min(least, rode[stop] + stops.walk[stop][to]);
            }
            return least;
        }
    }

    /** Ways by reading hops in their order, from the beginning and from the end, and by going on from the nearest. */
    private static final class Search {
        private final Stops stops;
        private final Net net;
        final Labels labels;
        private final boolean[] isAboard = new boolean[MAX_RUNS];
        /** Read from the end: the last departure at a stop by which one still comes in time. */
        private final int[] lastOn = new int[MAX_STOPS];
        /** Read from the end: the last arrival by a ride at a stop with which one still comes in time. */
        private final int[] lastOff = new int[MAX_STOPS];
        /** The places of the queue: each stop behind no ride, then each stop behind a ride. */
        private final boolean[] isLeft = new boolean[2 * MAX_STOPS];
        /** The pairs that no other one beats, by rising minutes: not more than hops, as each leaves by another one. */
        int pairs;
        final int[] pairLeave = new int[MAX_HOPS];
        final int[] pairArrive = new int[MAX_HOPS];

        Search(Stops stops, Net net) {
            this.stops = stops;
            this.net = net;
            this.labels = new Labels(stops);
        }

        void scan(int from, int minute) {
            labels.begin(from, minute);
            readHops(minute);
        }

        /** Begins in a trip of the day that is asked, as it leaves a call. */
        void scanOnBoard(int trip, int from) {
            labels.clear();
            for (int run = 0; run < net.runs; run++) {
                if (net.tripOf[run] == trip && net.dayOf[run] == 0) {
                    for (int call = from + 1; call < net.length[run]; call++) {
                        labels.getOff(net.stop[run][call], net.arrive[run][call]);
                    }
                }
            }
            readHops(0);
        }

        private void leaveRuns() {
            for (int run = 0; run < net.runs; run++) {
                isAboard[run] = false;
            }
        }

        private void readHops(int minute) {
            leaveRuns();
            for (int index = 0; index < net.hops; index++) {
                int key = net.byLeave[index];
                int leave = key / HOP_SPAN;
                int run = Net.runOf(key);
                int call = Net.callOf(key);
                if (leave >= minute && !isAboard[run]) {
                    isAboard[run] = labels.canGetOn(net.stop[run][call], leave);
                }
                if (isAboard[run]) {
                    labels.getOff(net.stop[run][call + 1], net.arrive[run][call + 1]);
                }
            }
        }

        /** The last minute to leave so that one arrives by a minute, below 0 if there is none. */
        int lastLeave(int from, int to, int by) {
            int byRides = lastLeaveByRides(from, to, by);
            int byFoot = from == to ? by : by - stops.walk[from][to];
            return Math.max(byRides, byFoot);
        }

        private int lastLeaveByRides(int from, int to, int by) {
            scanBack(to, by);
            int leave = lastOn[from];
            for (int stop = 0; stop < stops.count; stop++) {
                leave = Math.max(leave, lastOn[stop] - stops.walk[from][stop]);
            }
            return leave;
        }

        private void scanBack(int to, int by) {
            leaveRuns();
            for (int stop = 0; stop < stops.count; stop++) {
                lastOn[stop] = NONE;
                lastOff[stop] = stop == to ? by : by - stops.walk[stop][to];
            }
            for (int index = net.hops - 1; index >= 0; index--) {
                int key = net.byArrive[index];
                int run = Net.runOf(key);
                int call = Net.callOf(key);
                if (key / HOP_SPAN <= lastOff[net.stop[run][call + 1]]) {
                    isAboard[run] = true;
                }
                if (isAboard[run]) {
                    getOnBack(net.stop[run][call], net.leave[run][call]);
                }
            }
        }

        private void getOnBack(int stop, int leave) {
            if (leave <= lastOn[stop]) {
                return;
            }
            lastOn[stop] = leave;
            lastOff[stop] = Math.max(lastOff[stop], leave - stops.change[stop]);
            for (int other = 0; other < stops.count; other++) {
                lastOff[other] = Math.max(lastOff[other], leave - stops.walk[other][stop]);
            }
        }

        void goOnFromNearest(int from, int minute) {
            labels.begin(from, minute);
            for (int place = 0; place < 2 * MAX_STOPS; place++) {
                isLeft[place] = false;
            }
            for (int step = 0; step < 2 * MAX_STOPS; step++) {
                int place = nearest();
                if (place == NONE) {
                    return;
                }
                isLeft[place] = true;
                int stop = place % MAX_STOPS;
                int pause = place < MAX_STOPS ? 0 : stops.change[stop];
                getOnAll(stop, minuteAt(place) + pause);
            }
        }

        private int minuteAt(int place) {
            return place < MAX_STOPS ? labels.stood[place] : labels.rode[place - MAX_STOPS];
        }

        private int nearest() {
            int best = NONE;
            int least = NEVER;
            for (int place = 0; place < 2 * MAX_STOPS; place++) {
                boolean isOpen = place % MAX_STOPS < stops.count && !isLeft[place];
                if (isOpen && minuteAt(place) < least) {
                    least = minuteAt(place);
                    best = place;
                }
            }
            return best;
        }

        private void getOnAll(int stop, int ready) {
            for (int run = 0; run < net.runs; run++) {
                boolean isOn = false;
                for (int call = 0; call < net.length[run]; call++) {
                    if (isOn) {
                        labels.getOff(net.stop[run][call], net.arrive[run][call]);
                    } else {
                        isOn = net.stop[run][call] == stop && net.leave[run][call] >= ready;
                    }
                }
            }
        }

        /** Each pair is the earliest arrival behind the pair ahead, with the last chance for it. */
        void collectPairs(int from, int to) {
            pairs = 0;
            int minute = 0;
            for (int turn = 0; turn < MAX_HOPS; turn++) {
                scan(from, minute);
                int by = labels.atByRides(to);
                if (by >= NEVER) {
                    return;
                }
                pairLeave[pairs] = lastLeaveByRides(from, to, by);
                pairArrive[pairs] = by;
                minute = pairLeave[pairs] + 1;
                pairs++;
            }
        }

        /** The arrival of the first pair that leaves from a minute on, found by halves. */
        int pairArrivalFrom(int minute) {
            int low = 0;
            int high = pairs;
            for (int turn = 0; turn < MAX_HOPS && low < high; turn++) {
                int middle = (low + high) / 2;
                if (pairLeave[middle] < minute) {
                    low = middle + 1;
                } else {
                    high = middle;
                }
            }
            return low < pairs ? pairArrive[low] : NEVER;
        }
    }

    /** Ways by rounds of one ride more each, and the kept chain, which is told by them. */
    private static final class Rounds {
        private final Stops stops;
        private final Net net;
        /** By the greatest number of rides. A way that ends rides twice at a stop is worth nothing: 12 are enough. */
        final Labels[] rows = new Labels[MAX_STOPS + 1];
        /** The last row that was filled; more rides are no better. */
        int last;
        /** The rides of the kept chain. */
        int rides;
        final int[] rideTrip = new int[MAX_STOPS];
        final int[] rideDay = new int[MAX_STOPS];
        final int[] rideOn = new int[MAX_STOPS];
        final int[] rideOff = new int[MAX_STOPS];

        Rounds(Stops stops, Net net) {
            this.stops = stops;
            this.net = net;
            for (int round = 0; round <= MAX_STOPS; round++) {
                rows[round] = new Labels(stops);
            }
        }

        void fill(int from, int minute) {
            rows[0].begin(from, minute);
            last = 0;
            for (int round = 1; round <= MAX_STOPS; round++) {
                rows[round].copy(rows[round - 1]);
                if (!rideOnce(rows[round - 1], rows[round])) {
                    return;
                }
                last = round;
            }
        }

        private boolean rideOnce(Labels ahead, Labels then) {
            boolean isBetter = false;
            for (int run = 0; run < net.runs; run++) {
                boolean isOn = false;
                for (int call = 0; call < net.length[run]; call++) {
                    if (isOn && then.getOff(net.stop[run][call], net.arrive[run][call])) {
                        isBetter = true;
                    }
                    isOn = isOn || ahead.canGetOn(net.stop[run][call], net.leave[run][call]);
                }
            }
            return isBetter;
        }

        int least(int to) {
            return rows[last].at(to);
        }

        boolean isChoice(int round, int to) {
            int fewer = round == 0 ? NEVER : rows[round - 1].at(to);
            return rows[round].at(to) < fewer;
        }

        private int fewestRides(int to) {
            for (int round = 0; round < last; round++) {
                if (rows[round].at(to) == least(to)) {
                    return round;
                }
            }
            return last;
        }

        /** Keeps the chain, its last ride first: the rows tell of each ride whether one can get on it. */
        void keepChain(int to) {
            rides = fewestRides(to);
            int stop = to;
            int by = least(to);
            int pause = 0;
            for (int ride = rides - 1; ride >= 0; ride--) {
                int run = findRide(ride, stop, by, pause);
                rideTrip[ride] = net.tripOf[run];
                rideDay[ride] = net.dayOf[run];
                rideOff[ride] = offCall(run, ride, stop, by, pause);
                rideOn[ride] = onCall(run, ride, rideOff[ride]);
                stop = net.stop[run][rideOn[ride]];
                by = net.leave[run][rideOn[ride]];
                pause = stops.change[stop];
            }
        }

        private int findRide(int ride, int stop, int by, int pause) {
            for (int run = 0; run < net.runs; run++) {
                if (offCall(run, ride, stop, by, pause) != NONE) {
                    return run;
                }
            }
            return 0;
        }

        private int offCall(int run, int ride, int stop, int by, int pause) {
            boolean isOn = false;
            for (int call = 0; call < net.length[run]; call++) {
                int between = net.stop[run][call] == stop ? pause : stops.walk[net.stop[run][call]][stop];
                if (isOn && net.arrive[run][call] + between <= by) {
                    return call;
                }
                isOn = isOn || rows[ride].canGetOn(net.stop[run][call], net.leave[run][call]);
            }
            return NONE;
        }

        private int onCall(int run, int ride, int off) {
            for (int call = off - 1; call > 0; call--) {
                if (rows[ride].canGetOn(net.stop[run][call], net.leave[run][call])) {
                    return call;
                }
            }
            return 0;
        }
    }

    /** The wishes, and the lateness of departures if some of them are held. */
    private static final class Wishes {
        private final Stops stops;
        private final Services services;
        private final Trips trips;
        private final Delays delays;
        int count;
        private final int[] trip = new int[MAX_WISHES];
        private final int[] call = new int[MAX_WISHES];
        private final int[] other = new int[MAX_WISHES];
        private final int[] otherCall = new int[MAX_WISHES];
        private final int[] travellers = new int[MAX_WISHES];
        private final int[][] delay = new int[MAX_TRIPS][MAX_CALLS];

        Wishes(Stops stops, Services services, Trips trips, Delays delays) {
            this.stops = stops;
            this.services = services;
            this.trips = trips;
            this.delays = delays;
        }

        int add(int byTrip, int offCall, int toTrip, int onCall, int people) {
            trip[count] = byTrip;
            call[count] = offCall;
            other[count] = toTrip;
            otherCall[count] = onCall;
            travellers[count] = people;
            count++;
            return count - 1;
        }

        private boolean isCounted(int wish, int day) {
            return services.isOn(trips.service[trip[wish]], day)
                    && services.isOn(trips.service[other[wish]], day);
        }

        /** Spreads the lateness; tells whether it can be. */
        boolean spread(int day, int mask) {
            tellDelays(day);
            boolean isMoved = true;
            // No least lateness needs a wish twice: what still moves behind so many turns goes round for ever.
            for (int turn = 0; turn <= count && isMoved; turn++) {
                isMoved = holdOnce(day, mask);
            }
            return !isMoved && isWithinLimit();
        }

        private void tellDelays(int day) {
            for (int index = 0; index < trips.count; index++) {
                int entry = delays.find(day, index);
                for (int at = 0; at < trips.length[index]; at++) {
                    delay[index][at] = delays.at(entry, at);
                }
            }
        }

        private boolean holdOnce(int day, int mask) {
            boolean isMoved = false;
            for (int wish = 0; wish < count; wish++) {
                if ((mask >> wish & 1) == 1 && isCounted(wish, day)) {
                    isMoved |= hold(wish);
                }
            }
            return isMoved;
        }

        private boolean hold(int wish) {
            int[] then = delay[other[wish]];
            int need = then[otherCall[wish]] + gap(wish);
            if (need <= then[otherCall[wish]]) {
                return false;
            }
            for (int at = otherCall[wish]; at < trips.length[other[wish]]; at++) {
                then[at] = Math.max(then[at], need);
            }
            return true;
        }

        /** How much later than the departure one can get on; not above 0 if that is in time. */
        private int gap(int wish) {
            int off = call[wish];
            int on = otherCall[wish];
            int arrival = trips.arrive[trip[wish]][off] + delay[trip[wish]][off - 1];
            int departure = trips.leave[other[wish]][on] + delay[other[wish]][on];
            return arrival + stops.change[trips.stop[trip[wish]][off]] - departure;
        }

        private boolean isWithinLimit() {
            for (int wish = 0; wish < count; wish++) {
                if (delay[other[wish]][otherCall[wish]] > MAX_HELD) {
                    return false;
                }
            }
            return true;
        }

        /** The cost by the lateness that was spread. */
        int cost(int day, int mask) {
            int sum = 0;
            for (int index = 0; index < trips.count; index++) {
                int calls = trips.length[index];
                if (calls > 1 && services.isOn(trips.service[index], day)) {
                    sum += delay[index][calls - 2];
                }
            }
            for (int wish = 0; wish < count; wish++) {
                boolean isLeft = (mask >> wish & 1) == 0 && isCounted(wish, day);
                if (isLeft && gap(wish) > 0) {
                    sum += MISSED_COST * travellers[wish];
                }
            }
            return sum;
        }
    }

    /** The trips of a day with their beginnings and ends, for the fewest vehicles. */
    private static final class Fleet {
        private int count;
        private final int[] firstStop = new int[MAX_TRIPS];
        private final int[] lastStop = new int[MAX_TRIPS];
        private final int[] leave = new int[MAX_TRIPS];
        /** When a vehicle can go on behind the end. */
        private final int[] ready = new int[MAX_TRIPS];
        private final int[] events = new int[2 * MAX_TRIPS];
        private final int[] spare = new int[2 * MAX_TRIPS];
        private final int[] behind = new int[MAX_TRIPS];
        private final int[] ahead = new int[MAX_TRIPS];
        private final int[] queue = new int[MAX_TRIPS];
        private final int[] cameFrom = new int[MAX_TRIPS];

        void gather(Services services, Trips trips, int day) {
            count = 0;
            for (int trip = 0; trip < trips.count; trip++) {
                if (services.isOn(trips.service[trip], day)) {
                    int end = trips.length[trip] - 1;
                    firstStop[count] = trips.stop[trip][0];
                    lastStop[count] = trips.stop[trip][end];
                    leave[count] = trips.leave[trip][0];
                    ready[count] = trips.arrive[trip][end] + TURN_MINUTES;
                    count++;
                }
            }
        }

        int countByTimes(int stops) {
            int sum = 0;
            for (int stop = 0; stop < stops; stop++) {
                sum += countAt(stop);
            }
            return sum;
        }

        /** How many vehicles must begin at a stop: ends are even, beginnings odd, so that ends come first. */
        private int countAt(int stop) {
            int found = 0;
            for (int trip = 0; trip < count; trip++) {
                if (lastStop[trip] == stop) {
                    events[found] = 2 * ready[trip];
                    found++;
                }
                if (firstStop[trip] == stop) {
                    events[found] = 2 * leave[trip] + 1;
                    found++;
                }
            }
            sortUp(events, spare, found);
            int idle = 0;
            int fresh = 0;
            for (int index = 0; index < found; index++) {
                if (events[index] % 2 == 0) {
                    idle++;
                } else if (idle > 0) {
                    idle--;
                } else {
                    fresh++;
                }
            }
            return fresh;
        }

        int countByMatching() {
            for (int trip = 0; trip < count; trip++) {
                behind[trip] = NONE;
                ahead[trip] = NONE;
            }
            int matched = 0;
            for (int trip = 0; trip < count; trip++) {
                int end = findFree(trip);
                if (end != NONE) {
                    matchBack(end);
                    matched++;
                }
            }
            return count - matched;
        }

        private boolean canFollow(int trip, int next) {
            return lastStop[trip] == firstStop[next] && ready[trip] <= leave[next];
        }

        /** Finds a trip with none ahead, over trips whose match could be changed, beginning behind one trip. */
        private int findFree(int trip) {
            for (int next = 0; next < count; next++) {
                cameFrom[next] = NONE;
            }
            queue[0] = trip;
            int waiting = 1;
            for (int turn = 0; turn < waiting; turn++) {
                for (int next = 0; next < count; next++) {
                    if (cameFrom[next] == NONE && canFollow(queue[turn], next)) {
                        cameFrom[next] = queue[turn];
                        if (ahead[next] == NONE) {
                            return next;
                        }
                        if (waiting < MAX_TRIPS) {
                            queue[waiting] = ahead[next];
                            waiting++;
                        }
                    }
                }
            }
            return NONE;
        }

        private void matchBack(int end) {
            int next = end;
            for (int turn = 0; turn < count && next != NONE && cameFrom[next] != NONE; turn++) {
                int trip = cameFrom[next];
                int freed = behind[trip];
                behind[trip] = next;
                ahead[next] = trip;
                next = freed;
            }
        }
    }
}
