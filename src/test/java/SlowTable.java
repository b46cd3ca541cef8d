import java.util.ArrayList;
import java.util.Arrays;
import java.util.HashMap;
import java.util.HashSet;
import java.util.List;
import java.util.Map;
import java.util.NoSuchElementException;
import java.util.Set;
import java.util.TreeMap;

/**
 * The document's words taken as plainly as can be, without regard for speed: what Lastbus is compared with.
 * Ways are found as sets of boardings, by the exact number of rides; nothing here is shared with Lastbus.
 */
final class SlowTable {
    private static final int NEVER = 1 << 28;

    private static final class Trip {
        int service;
        final List<int[]> calls = new ArrayList<>();   // stop, arrival, departure
    }

    private static final class Run {
        int trip;
        int ahead;
        int[] stop;
        int[] arrive;
        int[] leave;
    }

    private static final class Late {
        int call;
        int minutes;
    }

    private final List<Integer> changes = new ArrayList<>();
    private final Map<Integer, Integer> told = new HashMap<>();   // stop * 100 + other -> minutes
    private final List<boolean[]> services = new ArrayList<>();
    private final List<Trip> trips = new ArrayList<>();
    private final StringBuilder text = new StringBuilder();
    private int fault = -1;
    private final Map<Integer, Late> lates = new TreeMap<>();   // day * 100 + trip
    private List<int[]> kept = null;   // trip, day, on, off
    private final List<int[]> wishes = new ArrayList<>();

    // What is asked at the moment
    private int[][] walks;
    private List<Run> runs;
    private int cut = -1;

    private static void index(boolean isFine) {
        if (!isFine) {
            throw new IndexOutOfBoundsException();
        }
    }

    private static void argument(boolean isFine) {
        if (!isFine) {
            throw new IllegalArgumentException();
        }
    }

    private static void state(boolean isFine) {
        if (!isFine) {
            throw new IllegalStateException();
        }
    }

    private static void support(boolean isFine) {
        if (!isFine) {
            throw new UnsupportedOperationException();
        }
    }

    private static void element(boolean isFine) {
        if (!isFine) {
            throw new NoSuchElementException();
        }
    }

    private static boolean in(int number, int least, int greatest) {
        return least <= number && number <= greatest;
    }

    private boolean isStop(int stop) {
        return in(stop, 0, changes.size() - 1);
    }

    private boolean isTrip(int trip) {
        return in(trip, 0, trips.size() - 1);
    }

    private boolean isCall(int trip, int call) {
        return isTrip(trip) && in(call, 0, trips.get(trip).calls.size() - 1);
    }

    private static boolean isDay(int day) {
        return in(day, 0, 27);
    }

    private boolean runsTrip(int trip, int day) {
        return isDay(day) && services.get(trips.get(trip).service)[day];
    }

    // Stops and walks

    int stop(int change) {
        argument(in(change, 0, 30));
        state(changes.size() < 12);
        changes.add(change);
        return changes.size() - 1;
    }

    int setChange(int stop, int change) {
        index(isStop(stop));
        argument(in(change, 0, 30));
        return changes.set(stop, change);
    }

    int walk(int stop, int other, int minutes) {
        index(isStop(stop) && isStop(other));
        argument(stop != other && in(minutes, 0, 60));
        int ahead = told.getOrDefault(stop * 100 + other, 0);
        told.put(stop * 100 + other, minutes);
        told.put(other * 100 + stop, minutes);
        return ahead;
    }

    int walkTime(int stop, int other) {
        index(isStop(stop) && isStop(other));
        cut = -1;
        int[] all = walksFrom(stop);
        element(all[other] < NEVER);
        return all[other];
    }

    /** By going over all told walks till nothing changes any more. */
    private int[] walksFrom(int from) {
        int[] best = new int[changes.size()];
        Arrays.fill(best, NEVER);
        best[from] = 0;
        boolean isMoved = true;
        while (isMoved) {
            isMoved = false;
            for (Map.Entry<Integer, Integer> walk : told.entrySet()) {
                int a = walk.getKey() / 100;
                int b = walk.getKey() % 100;
                if (walk.getValue() > 0 && a != cut && b != cut && best[a] + walk.getValue() < best[b]) {
                    best[b] = best[a] + walk.getValue();
                    isMoved = true;
                }
            }
        }
        return best;
    }

    // Services and trips

    int service() {
        state(services.size() < 6);
        services.add(new boolean[28]);
        return services.size() - 1;
    }

    int week(int service, int days, int from, int to) {
        index(in(service, 0, services.size() - 1));
        argument(in(days, 0, 127) && isDay(from) && isDay(to) && from <= to);
        boolean[] of = services.get(service);
        int count = 0;
        for (int day = 0; day < 28; day++) {
            if (day >= from && day <= to && (days / (1 << (day % 7))) % 2 == 1) {
                of[day] = true;
            }
            count += of[day] ? 1 : 0;
        }
        return count;
    }

    boolean putDay(int service, int day, boolean isOn) {
        index(in(service, 0, services.size() - 1));
        argument(isDay(day));
        boolean ahead = services.get(service)[day];
        services.get(service)[day] = isOn;
        return ahead;
    }

    boolean runsOn(int service, int day) {
        index(in(service, 0, services.size() - 1));
        argument(isDay(day));
        return services.get(service)[day];
    }

    int nextDay(int service, int day) {
        index(in(service, 0, services.size() - 1));
        argument(isDay(day));
        int next = day;
        while (next < 28 && !services.get(service)[next]) {
            next++;
        }
        element(next < 28);
        return next;
    }

    int trip(int service, int stop, int departure) {
        index(in(service, 0, services.size() - 1) && isStop(stop));
        argument(in(departure, 0, 2879));
        state(trips.size() < 24);
        Trip trip = new Trip();
        trip.service = service;
        trip.calls.add(new int[] {stop, departure, departure});
        trips.add(trip);
        return trips.size() - 1;
    }

    int call(int trip, int stop, int arrival, int departure) {
        index(isTrip(trip) && isStop(stop));
        argument(in(arrival, 0, 2879) && in(departure, 0, 2879));
        List<int[]> calls = trips.get(trip).calls;
        int[] end = calls.get(calls.size() - 1);
        argument(arrival > end[2] && departure >= arrival && stop != end[0]);
        state(calls.size() < 8);
        calls.add(new int[] {stop, arrival, departure});
        return calls.size();
    }

    int trips() {
        return trips.size();
    }

    int calls(int trip) {
        index(isTrip(trip));
        return trips.get(trip).calls.size();
    }

    int stopAt(int trip, int call) {
        index(isCall(trip, call));
        return trips.get(trip).calls.get(call)[0];
    }

    int timeAt(int trip, int call, boolean isArrival) {
        index(isCall(trip, call));
        return trips.get(trip).calls.get(call)[isArrival ? 1 : 2];
    }

    int shift(int trip, int minutes) {
        index(isTrip(trip));
        argument(canShift(trip, minutes));
        move(trip, minutes);
        return trips.get(trip).calls.get(0)[2];
    }

    private boolean canShift(int trip, int minutes) {
        if (!in(minutes, -60, 60)) {
            return false;
        }
        for (int[] call : trips.get(trip).calls) {
            if (!in(call[1] + minutes, 0, 2879) || !in(call[2] + minutes, 0, 2879)) {
                return false;
            }
        }
        return true;
    }

    private void move(int trip, int minutes) {
        for (int[] call : trips.get(trip).calls) {
            call[1] += minutes;
            call[2] += minutes;
        }
    }

    // Texts

    int type(char sign) {
        state(text.length() < 80);
        text.append(sign);
        return text.length();
    }

    int typeNumber(int number) {
        argument(in(number, 0, 9999));
        state(text.length() + String.valueOf(number).length() <= 80);
        text.append(number);
        return text.length();
    }

    int erase() {
        int had = text.length();
        text.setLength(0);
        return had;
    }

    private static final String NUMBER = "[0-9]{1,4}";
    private static final String FIRST = NUMBER + ":" + NUMBER + "@" + NUMBER;
    private static final String NEXT = "," + NUMBER + "@" + NUMBER + "(-" + NUMBER + ")?";

    /** Whether some row begins with this text: the text, with one of some ends behind it, is a row. */
    private static boolean canGoOn(String part) {
        for (String end : new String[] {"", "0", ":0@0", "0:0@0", "@0", "0@0"}) {
            if ((part + end).matches(FIRST + "(" + NEXT + ")*")) {
                return true;
            }
        }
        return false;
    }

    int readRow() {
        String row = text.toString();
        if (!row.matches(FIRST + "(" + NEXT + ")*")) {
            int place = 0;
            while (place < row.length() && canGoOn(row.substring(0, place + 1))) {
                place++;
            }
            fault = place;
            argument(false);
        }
        String[] parts = row.split("[:,]");
        int service = Integer.parseInt(parts[0]);
        support(in(service, 0, services.size() - 1) && parts.length - 1 <= 8);
        Trip trip = new Trip();
        trip.service = service;
        for (int i = 1; i < parts.length; i++) {
            String[] numbers = parts[i].split("[@-]");
            int stop = Integer.parseInt(numbers[0]);
            int arrival = Integer.parseInt(numbers[1]);
            int departure = numbers.length > 2 ? Integer.parseInt(numbers[2]) : arrival;
            support(isStop(stop) && in(arrival, 0, 2879) && in(departure, arrival, 2879));
            if (i > 1) {
                int[] ahead = trip.calls.get(i - 2);
                support(ahead[0] != stop && arrival > ahead[2]);
            }
            trip.calls.add(new int[] {stop, arrival, departure});
        }
        state(trips.size() < 24);
        trips.add(trip);
        text.setLength(0);
        return trips.size() - 1;
    }

    int faultAt() {
        element(fault >= 0);
        return fault;
    }

    // Lateness

    int late(int day, int trip, int call, int minutes) {
        index(isCall(trip, call));
        argument(isDay(day) && in(minutes, 0, 120));
        Late old = lates.get(day * 100 + trip);
        state(lates.size() < 12 || old != null || minutes == 0);
        if (minutes == 0) {
            lates.remove(day * 100 + trip);
        } else {
            Late late = new Late();
            late.call = call;
            late.minutes = minutes;
            lates.put(day * 100 + trip, late);
        }
        return old == null ? 0 : old.minutes;
    }

    int lateness(int day, int trip, int call) {
        index(isCall(trip, call));
        argument(isDay(day));
        return toldFor(day, trip, call);
    }

    private int toldFor(int day, int trip, int call) {
        Late late = lates.get(day * 100 + trip);
        return late == null || call < late.call ? 0 : late.minutes;
    }

    int onTime() {
        int had = lates.size();
        lates.clear();
        return had;
    }

    // Ways

    private void ask(int day, int without) {
        cut = without;
        walks = new int[changes.size()][];
        for (int stop = 0; stop < changes.size(); stop++) {
            walks[stop] = walksFrom(stop);
        }
        runs = new ArrayList<>();
        for (int ahead = -1; ahead <= 1; ahead++) {
            for (int trip = 0; trip < trips.size(); trip++) {
                if (runsTrip(trip, day + ahead)) {
                    runs.add(runOf(trip, day + ahead, ahead));
                }
            }
        }
    }

    private Run runOf(int trip, int day, int ahead) {
        List<int[]> calls = trips.get(trip).calls;
        Run run = new Run();
        run.trip = trip;
        run.ahead = ahead;
        run.stop = new int[calls.size()];
        run.arrive = new int[calls.size()];
        run.leave = new int[calls.size()];
        for (int call = 0; call < calls.size(); call++) {
            run.stop[call] = calls.get(call)[0];
            int lateArrival = call == 0 ? 0 : toldFor(day, trip, call - 1);
            run.arrive[call] = calls.get(call)[1] + lateArrival + 1440 * ahead;
            run.leave[call] = calls.get(call)[2] + toldFor(day, trip, call) + 1440 * ahead;
        }
        return run;
    }

    private boolean canBoard(Run run, int call) {
        return call < run.stop.length - 1 && run.leave[call] >= 0 && run.stop[call] != cut;
    }

    /** From an arrival by a ride at a stop to getting on at a stop at a minute. */
    private boolean canChange(int stop, int arrival, int other, int departure) {
        if (stop == other) {
            return arrival + changes.get(stop) <= departure;
        }
        return walks[stop][other] < NEVER && arrival + walks[stop][other] <= departure;
    }

    /** The boardings (run * 8 + call) with which a ride of the number can begin, from 1 on. */
    private List<Set<Integer>> boardings(int from, int minute) {
        List<Set<Integer>> all = new ArrayList<>();
        all.add(new HashSet<>());
        Set<Integer> first = new HashSet<>();
        for (int run = 0; run < runs.size(); run++) {
            for (int call = 0; call < runs.get(run).stop.length; call++) {
                Run of = runs.get(run);
                if (canBoard(of, call) && walks[from][of.stop[call]] < NEVER
                        && minute + walks[from][of.stop[call]] <= of.leave[call]) {
                    first.add(run * 8 + call);
                }
            }
        }
        all.add(first);
        grow(all);
        return all;
    }

    /** Adds sets for more rides, till no boarding comes that did not come with fewer. */
    private void grow(List<Set<Integer>> all) {
        Set<Integer> known = new HashSet<>(all.get(1));
        boolean isNew = true;
        while (isNew) {
            Set<Integer> next = new HashSet<>();
            for (int boarding : all.get(all.size() - 1)) {
                next.addAll(boardingsBehind(boarding));
            }
            isNew = !known.containsAll(next);
            known.addAll(next);
            all.add(next);
        }
    }

    private Set<Integer> boardingsBehind(int boarding) {
        Set<Integer> found = new HashSet<>();
        Run run = runs.get(boarding / 8);
        for (int off = boarding % 8 + 1; off < run.stop.length; off++) {
            if (run.stop[off] != cut) {
                found.addAll(boardingsFrom(run.stop[off], run.arrive[off]));
            }
        }
        return found;
    }

    private Set<Integer> boardingsFrom(int stop, int arrival) {
        Set<Integer> found = new HashSet<>();
        for (int run = 0; run < runs.size(); run++) {
            Run of = runs.get(run);
            for (int call = 0; call < of.stop.length; call++) {
                if (canBoard(of, call) && canChange(stop, arrival, of.stop[call], of.leave[call])) {
                    found.add(run * 8 + call);
                }
            }
        }
        return found;
    }

    private int endOf(Set<Integer> boardings, int to) {
        int best = NEVER;
        for (int boarding : boardings) {
            Run run = runs.get(boarding / 8);
            for (int off = boarding % 8 + 1; off < run.stop.length; off++) {
                if (run.stop[off] != cut && walks[run.stop[off]][to] < NEVER) {
                    best = Math.min(best, run.arrive[off] + walks[run.stop[off]][to]);
                }
            }
        }
        return best;
    }

    /** The least arrival by the exact number of rides. */
    private int[] ends(int from, int to, int minute) {
        List<Set<Integer>> all = boardings(from, minute);
        int[] ends = new int[all.size()];
        ends[0] = walks[from][to] < NEVER ? minute + walks[from][to] : NEVER;
        for (int rides = 1; rides < ends.length; rides++) {
            ends[rides] = endOf(all.get(rides), to);
        }
        return ends;
    }

    private static int least(int[] numbers) {
        int best = NEVER;
        for (int number : numbers) {
            best = Math.min(best, number);
        }
        return best;
    }

    private void needWay(int from, int to, int day, int minute) {
        index(isStop(from) && isStop(to));
        argument(isDay(day) && in(minute, 0, 1439));
    }

    int earliest(int from, int to, int day, int minute) {
        needWay(from, to, day, minute);
        ask(day, -1);
        int best = least(ends(from, to, minute));
        element(best < NEVER);
        return best;
    }

    int wall(int from, int day, int minute, int before) {
        index(isStop(from));
        argument(isDay(day) && in(minute, 0, 1439) && in(before, 0, 4319));
        ask(day, -1);
        int sum = 0;
        List<Set<Integer>> all = boardings(from, minute);
        for (int to = 0; to < changes.size(); to++) {
            int best = walks[from][to] < NEVER ? minute + walks[from][to] : NEVER;
            for (Set<Integer> some : all) {
                best = Math.min(best, endOf(some, to));
            }
            sum += best < before ? 1 << to : 0;
        }
        return sum;
    }

    /** Leaving and arrival of the best way with each first boarding. */
    private List<int[]> allPairs(int from, int to) {
        List<int[]> found = new ArrayList<>();
        int[] best = new int[runs.size() * 8];
        Arrays.fill(best, -1);
        for (int run = 0; run < runs.size(); run++) {
            Run of = runs.get(run);
            for (int call = 0; call < of.stop.length; call++) {
                if (canBoard(of, call) && walks[from][of.stop[call]] < NEVER) {
                    int leave = of.leave[call] - walks[from][of.stop[call]];
                    int arrival = bestFrom(run * 8 + call, to, best);
                    if (leave >= 0 && arrival < NEVER) {
                        found.add(new int[] {leave, arrival});
                    }
                }
            }
        }
        return found;
    }

    private int bestFrom(int boarding, int to, int[] best) {
        if (best[boarding] >= 0) {
            return best[boarding];
        }
        int least = endOf(Set.of(boarding), to);
        for (int next : boardingsBehind(boarding)) {
            least = Math.min(least, bestFrom(next, to, best));
        }
        best[boarding] = least;
        return least;
    }

    private List<int[]> unbeaten(int from, int to) {
        List<int[]> all = allPairs(from, to);
        TreeMap<Integer, Integer> fine = new TreeMap<>();
        for (int[] one : all) {
            boolean isBeaten = false;
            for (int[] other : all) {
                boolean isSame = other[0] == one[0] && other[1] == one[1];
                isBeaten |= !isSame && other[0] >= one[0] && other[1] <= one[1];
            }
            if (!isBeaten) {
                fine.put(one[0], one[1]);
            }
        }
        List<int[]> told = new ArrayList<>();
        for (Map.Entry<Integer, Integer> pair : fine.entrySet()) {
            told.add(new int[] {pair.getKey(), pair.getValue()});
        }
        return told;
    }

    int last(int from, int to, int day, int minute) {
        index(isStop(from) && isStop(to));
        argument(isDay(day) && in(minute, 0, 2879));
        ask(day, -1);
        int best = walks[from][to] < NEVER ? minute - walks[from][to] : -1;
        for (int[] pair : allPairs(from, to)) {
            if (pair[1] <= minute) {
                best = Math.max(best, pair[0]);
            }
        }
        element(best >= 0);
        return best;
    }

    int chain(int from, int to, int day, int minute) {
        needWay(from, to, day, minute);
        ask(day, -1);
        int[] ends = ends(from, to, minute);
        int best = least(ends);
        element(best < NEVER);
        int rides = 0;
        while (ends[rides] > best) {
            rides++;
        }
        List<Set<Integer>> all = boardings(from, minute);
        List<int[]> found = new ArrayList<>();
        int stop = to;
        int by = best;
        boolean isEnd = true;
        for (int left = rides; left > 0; left--) {
            int[] ride = lastRide(all.get(left), stop, by, isEnd);
            Run run = runs.get(ride[0]);
            found.add(0, new int[] {run.trip, run.ahead, ride[1], ride[2]});
            stop = run.stop[ride[1]];
            by = run.leave[ride[1]];
            isEnd = false;
        }
        kept = found;
        return rides;
    }

    private int[] lastRide(Set<Integer> boardings, int stop, int by, boolean isEnd) {
        for (int run = 0; run < runs.size(); run++) {
            Run of = runs.get(run);
            for (int off = 1; off < of.stop.length; off++) {
                boolean isInTime = isEnd && of.stop[off] == stop
                        ? of.arrive[off] <= by : canChange(of.stop[off], of.arrive[off], stop, by);
                for (int on = off - 1; on >= 0 && isInTime; on--) {
                    if (boardings.contains(run * 8 + on)) {
                        return new int[] {run, on, off};
                    }
                }
            }
        }
        throw new AssertionError("a chain must go on");
    }

    int ride(int index, char what) {
        argument("tdof".indexOf(what) >= 0);
        element(kept != null && in(index, 0, kept.size() - 1));
        return kept.get(index)["tdof".indexOf(what)];
    }

    int onBoard(int day, int trip, int call, int to) {
        index(isCall(trip, call) && isStop(to));
        argument(isDay(day));
        support(runsTrip(trip, day) && call < trips.get(trip).calls.size() - 1);
        ask(day, -1);
        int best = NEVER;
        for (int run = 0; run < runs.size(); run++) {
            if (runs.get(run).trip == trip && runs.get(run).ahead == 0) {
                int[] memo = new int[runs.size() * 8];
                Arrays.fill(memo, -1);
                best = bestFrom(run * 8 + call, to, memo);
            }
        }
        element(best < NEVER);
        return best;
    }

    // Pairs and choices

    int pairs(int from, int to, int day) {
        index(isStop(from) && isStop(to));
        argument(from != to && isDay(day));
        ask(day, -1);
        return unbeaten(from, to).size();
    }

    int pair(int from, int to, int day, int index, boolean isArrival) {
        int count = pairs(from, to, day);
        element(in(index, 0, count - 1));
        return unbeaten(from, to).get(index)[isArrival ? 1 : 0];
    }

    private List<Integer> allChoices(int from, int to, int minute) {
        List<Integer> found = new ArrayList<>();
        int best = NEVER;
        int[] ends = ends(from, to, minute);
        for (int rides = 0; rides < ends.length; rides++) {
            if (ends[rides] < best) {
                best = ends[rides];
                found.add(5000 * rides + best);
            }
        }
        return found;
    }

    int choices(int from, int to, int day, int minute) {
        needWay(from, to, day, minute);
        ask(day, -1);
        return allChoices(from, to, minute).size();
    }

    int choice(int from, int to, int day, int minute, int index) {
        needWay(from, to, day, minute);
        ask(day, -1);
        List<Integer> all = allChoices(from, to, minute);
        element(in(index, 0, all.size() - 1));
        return all.get(index);
    }

    // Changes and waiting

    private boolean isChange(int trip, int call, int other, int otherCall) {
        return trip != other && call != 0 && otherCall != trips.get(other).calls.size() - 1;
    }

    boolean holds(int day, int trip, int call, int other, int otherCall) {
        index(isCall(trip, call) && isCall(other, otherCall));
        argument(isDay(day) && isChange(trip, call, other, otherCall));
        support(runsTrip(trip, day) && runsTrip(other, day));
        ask(day, -1);
        Run one = runOf(trip, day, 0);
        Run two = runOf(other, day, 0);
        int off = one.stop[call];
        int on = two.stop[otherCall];
        element(off == on || walks[off][on] < NEVER);
        return canChange(off, one.arrive[call], on, two.leave[otherCall]);
    }

    int wish(int trip, int call, int other, int otherCall, int travellers) {
        index(isCall(trip, call) && isCall(other, otherCall));
        argument(isChange(trip, call, other, otherCall) && in(travellers, 1, 99));
        support(stopAt(trip, call) == stopAt(other, otherCall));
        state(wishes.size() < 6);
        wishes.add(new int[] {trip, call, other, otherCall, travellers});
        return wishes.size() - 1;
    }

    int dropWishes() {
        int had = wishes.size();
        wishes.clear();
        return had;
    }

    private boolean counts(int[] wish, int day) {
        return runsTrip(wish[0], day) && runsTrip(wish[2], day);
    }

    /** The lateness of departures by making it greater till all holds; null if it cannot be. */
    private int[][] leastLateness(int day, int mask) {
        int[][] late = new int[24][8];
        boolean isMoved = true;
        while (isMoved) {
            isMoved = false;
            for (int trip = 0; trip < trips.size(); trip++) {
                for (int call = 0; call < trips.get(trip).calls.size(); call++) {
                    int due = Math.max(toldFor(day, trip, call), call > 0 ? late[trip][call - 1] : 0);
                    for (int i = 0; i < wishes.size(); i++) {
                        int[] wish = wishes.get(i);
                        boolean leadsHere = wish[2] == trip && wish[3] == call;
                        if ((mask & 1 << i) != 0 && counts(wish, day) && leadsHere) {
                            due = Math.max(due, arrivalAndChange(wish, late) - timeAt(trip, call, false));
                        }
                    }
                    if (due > 240) {
                        return null;
                    }
                    isMoved |= due > late[trip][call];
                    late[trip][call] = Math.max(due, late[trip][call]);
                }
            }
        }
        return late;
    }

    private int arrivalAndChange(int[] wish, int[][] late) {
        return timeAt(wish[0], wish[1], true) + late[wish[0]][wish[1] - 1] + changes.get(stopAt(wish[0], wish[1]));
    }

    private int costOf(int day, int mask) {
        int[][] late = leastLateness(day, mask);
        if (late == null) {
            return NEVER;
        }
        int sum = 0;
        for (int trip = 0; trip < trips.size(); trip++) {
            int calls = trips.get(trip).calls.size();
            if (runsTrip(trip, day) && calls > 1) {
                sum += late[trip][calls - 2];
            }
        }
        for (int i = 0; i < wishes.size(); i++) {
            int[] wish = wishes.get(i);
            int departure = timeAt(wish[2], wish[3], false) + late[wish[2]][wish[3]];
            if ((mask & 1 << i) == 0 && counts(wish, day) && arrivalAndChange(wish, late) > departure) {
                sum += 60 * wish[4];
            }
        }
        return sum;
    }

    int waitCost(int day, int mask) {
        argument(isDay(day) && mask >= 0 && mask < 1 << wishes.size());
        int cost = costOf(day, mask);
        element(cost < NEVER);
        return cost;
    }

    int bestWaits(int day) {
        argument(isDay(day));
        int best = 0;
        for (int mask = 0; mask < 1 << wishes.size(); mask++) {
            if (costOf(day, mask) < costOf(day, best)) {
                best = mask;
            }
        }
        return best;
    }

    // Cuts, vehicles, shifts

    private int[][] allFrom(int day, int minute, int without) {
        ask(day, without);
        int[][] all = new int[changes.size()][changes.size()];
        for (int from = 0; from < changes.size(); from++) {
            Arrays.fill(all[from], NEVER);
            if (from != without) {
                Set<Integer> some = new HashSet<>();
                for (Set<Integer> boardings : boardings(from, minute)) {
                    some.addAll(boardings);
                }
                for (int to = 0; to < changes.size(); to++) {
                    if (to != without) {
                        int byFoot = walks[from][to] < NEVER ? minute + walks[from][to] : NEVER;
                        all[from][to] = Math.min(byFoot, endOf(some, to));
                    }
                }
            }
        }
        return all;
    }

    private int lostBy(int stop, int[][] ahead, int day) {
        int[][] then = allFrom(day, 0, stop);
        int count = 0;
        for (int a = 0; a < changes.size(); a++) {
            for (int b = 0; b < changes.size(); b++) {
                boolean isAsked = a != b && a != stop && b != stop;
                count += isAsked && ahead[a][b] < NEVER && then[a][b] == NEVER ? 1 : 0;
            }
        }
        return count;
    }

    int lost(int stop, int day) {
        index(isStop(stop));
        argument(isDay(day));
        return lostBy(stop, allFrom(day, 0, -1), day);
    }

    int bridges(int day) {
        argument(isDay(day));
        int[][] ahead = allFrom(day, 0, -1);
        int sum = 0;
        for (int stop = 0; stop < changes.size(); stop++) {
            sum += lostBy(stop, ahead, day) > 0 ? 1 << stop : 0;
        }
        return sum;
    }

    /** Puts each trip behind one that is free, changing what was put if that helps. */
    int vehicles(int day) {
        argument(isDay(day));
        List<Integer> on = new ArrayList<>();
        for (int trip = 0; trip < trips.size(); trip++) {
            if (runsTrip(trip, day)) {
                on.add(trip);
            }
        }
        Map<Integer, Integer> aheadOf = new HashMap<>();
        int put = 0;
        for (int trip : on) {
            put += canPut(trip, on, aheadOf, new HashSet<>()) ? 1 : 0;
        }
        return on.size() - put;
    }

    private boolean canPut(int trip, List<Integer> on, Map<Integer, Integer> aheadOf, Set<Integer> seen) {
        List<int[]> calls = trips.get(trip).calls;
        int[] end = calls.get(calls.size() - 1);
        for (int next : on) {
            int[] first = trips.get(next).calls.get(0);
            if (end[0] == first[0] && end[1] + 5 <= first[2] && seen.add(next)) {
                if (!aheadOf.containsKey(next) || canPut(aheadOf.get(next), on, aheadOf, seen)) {
                    aheadOf.put(next, trip);
                    return true;
                }
            }
        }
        return false;
    }

    int gains(int trip, int minutes, int day, int minute) {
        return moved(trip, minutes, day, minute, 1);
    }

    int loses(int trip, int minutes, int day, int minute) {
        return moved(trip, minutes, day, minute, -1);
    }

    private int moved(int trip, int minutes, int day, int minute, int sign) {
        index(isTrip(trip));
        argument(isDay(day) && in(minute, 0, 1439) && canShift(trip, minutes));
        int[][] ahead = allFrom(day, minute, -1);
        move(trip, minutes);
        int[][] then = allFrom(day, minute, -1);
        move(trip, -minutes);
        int count = 0;
        for (int a = 0; a < changes.size(); a++) {
            for (int b = 0; b < changes.size(); b++) {
                count += a != b && Integer.compare(ahead[a][b], then[a][b]) == sign ? 1 : 0;
            }
        }
        return count;
    }

    // Figures

    float reachShare(int day) {
        argument(isDay(day));
        int stops = changes.size();
        if (stops < 2) {
            throw new ArithmeticException();
        }
        int[][] all = allFrom(day, 0, -1);
        int count = 0;
        for (int a = 0; a < stops; a++) {
            for (int b = 0; b < stops; b++) {
                count += a != b && all[a][b] < NEVER ? 1 : 0;
            }
        }
        return (float) count / (float) (stops * (stops - 1));
    }

    double meanBetween() {
        int sum = 0;
        int count = 0;
        for (Trip trip : trips) {
            for (int call = 1; call < trip.calls.size(); call++) {
                sum += trip.calls.get(call)[1] - trip.calls.get(call - 1)[2];
                count++;
            }
        }
        if (count == 0) {
            throw new ArithmeticException();
        }
        return (double) sum / (double) count;
    }

    long checksum() {
        List<Integer> all = new ArrayList<>(changes);
        for (Trip trip : trips) {
            all.add(trip.service);
            for (int[] call : trip.calls) {
                all.add(call[0]);
                all.add(call[1]);
                all.add(call[2]);
            }
        }
        for (boolean[] service : services) {
            for (boolean isOn : service) {
                all.add(isOn ? 1 : 0);
            }
        }
        all.add(text.length());
        long sum = 7;
        for (int one : all) {
            sum = sum * 31 + one;
        }
        return sum;
    }
}
