import java.util.function.Supplier;

/** Long runs of calls, the same on Lastbus and on SlowTable: each answer and each exception must be the same. */
public final class CompareTests {
    private static final int CALLS = 512;
    private static int wrong = 0;
    private static long compared = 0;
    private static final int[] ANSWERED = new int[64];
    private static final int[] THREW = new int[64];

    private long seed;
    private Lastbus bus;
    private SlowTable slow;
    private int kind;
    private int from;
    private int span;
    private int walkGreatest;
    private int changeGreatest;
    private final StringBuilder told = new StringBuilder();

    private CompareTests(long seed) {
        this.seed = seed * 7919 + 17;
    }

    private int below(int bound) {
        seed = seed * 6364136223846793005L + 1442695040888963407L;
        return (int) ((seed >>> 33) % bound);
    }

    /** Mostly a number that is there, now and then one just outside, or far. */
    private int number(int count) {
        int rare = below(250);
        return rare == 0 ? -1 : rare == 1 ? count : rare == 2 ? Integer.MIN_VALUE : rare == 3 ? Integer.MAX_VALUE
                : count == 0 ? 0 : below(count);
    }

    private int time() {
        int rare = below(200);
        return rare == 0 ? -1 : rare == 1 ? 2880 : rare == 2 ? 2879 : rare == 3 ? 0 : from + below(span);
    }

    private static Object answer(Supplier<Object> call) {
        try {
            return call.get();
        } catch (RuntimeException thrown) {
            return thrown.getClass().getSimpleName();
        }
    }

    private void same(int op, String call, Supplier<Object> fast, Supplier<Object> due) {
        compared++;
        told.append(call).append('\n');
        Object got = answer(fast);
        Object want = answer(due);
        (want instanceof String ? THREW : ANSWERED)[op]++;
        if (!got.equals(want)) {
            wrong++;
            if (wrong < 6) {
                System.out.println(told + "-> answered " + got + ", due is " + want + "\n");
            }
        }
    }

    private void run() {
        bus = new Lastbus();
        slow = new SlowTable();
        kind = below(5);
        from = new int[] {0, 300, 1380, 2700}[below(4)];
        span = new int[] {40, 120, 180, 180}[below(4)];
        walkGreatest = 1 + below(60);
        changeGreatest = 1 + below(30);
        int stops = kind == 0 ? below(4) : 2 + below(kind == 1 ? 4 : 11);
        int calls = 0;
        for (int i = 0; i < stops; i++, calls++) {
            mutate(0);
        }
        for (int i = 0; i < 1 + below(4); i++, calls++) {
            mutate(5);
        }
        for (int i = 0; i < 6; i++, calls++) {
            mutate(6);
        }
        for (int i = 0; i < 20 && kind == 4; i++) {
            newTrip();
        }
        int builds = 60 + below(100);
        for (int i = 0; i < builds; i++, calls++) {
            mutate(below(18));
        }
        for (; calls < CALLS; calls++) {
            if (below(7) == 0) {
                mutate(below(18));
            } else {
                askOne(below(30));
            }
        }
    }

    /** A line on which each stop needs one ride more: long chains, many choices, and many ways of like arrival. */
    private void runLadder() {
        bus = new Lastbus();
        slow = new SlowTable();
        from = below(3) == 0 ? 1390 : 60;
        span = 120;
        walkGreatest = 12;
        changeGreatest = 3;
        int stops = 6 + below(7);
        while (stopCount < stops) {
            mutate(0);
        }
        same(5, "service", () -> bus.service(), () -> slow.service());
        same(6, "week 0", () -> bus.week(0, 127, 0, 27), () -> slow.week(0, 127, 0, 27));
        for (int i = 0; i < 24; i++) {
            ladderTrip(i % (stopCount - 1));
        }
        serviceCount = 1;
        kind = 2;
        for (int i = 0; i < 6; i++) {
            mutate(13);
            mutate(14);
        }
        int day = below(3);
        for (int to = 1; to < stopCount; to++) {
            askLadder(below(2), to, day);
        }
        for (int i = 0; i < 40; i++) {
            askOne(below(30));
        }
    }

    private void ladderTrip(int stop) {
        int departure = from + 9 * stop + below(7);
        same(10, "trip 0 " + stop + " " + departure, () -> bus.trip(0, stop, departure), () -> slow.trip(0, stop, departure));
        int trip = slow.trips() - 1;
        int minute = departure;
        for (int next = stop + 1; next < stopCount && next < stop + 2 + below(3) / 2; next++) {
            int at = next;
            int arrival = minute + 6 + below(4);
            minute = arrival + below(2);
            int leave = minute;
            same(11, "call " + trip + " " + at + " " + arrival + " " + leave,
                    () -> bus.call(trip, at, arrival, leave), () -> slow.call(trip, at, arrival, leave));
        }
    }

    private void askLadder(int a, int b, int day) {
        int minute = from - below(6);
        same(28, "chain " + a + " " + b + " " + day + " " + minute,
                () -> bus.chain(a, b, day, minute), () -> slow.chain(a, b, day, minute));
        for (int i = 0; i < 8; i++) {
            int index = i;
            for (char what : "tdof".toCharArray()) {
                same(29, "ride " + index + " " + what, () -> bus.ride(index, what), () -> slow.ride(index, what));
            }
            same(34, "choice " + a + " " + b + " " + day + " " + minute + " " + index,
                    () -> bus.choice(a, b, day, minute, index), () -> slow.choice(a, b, day, minute, index));
        }
        int by = from + 9 * b + below(30);
        same(27, "last " + a + " " + b + " " + day + " " + by, () -> bus.last(a, b, day, by), () -> slow.last(a, b, day, by));
    }

    private int stopNumber() {
        return number(stopCount);
    }

    /** In a line, trips go to neighbours, so that long chains come. */
    private boolean isLine() {
        return (kind == 2 || kind == 4) && stopCount > 2;
    }

    private int otherStop(int old) {
        if (isLine()) {
            return Math.floorMod(old + (below(4) == 0 ? -1 : 1), stopCount);
        }
        int stop = stopNumber();
        return stop == old && stopCount > 1 && below(20) > 0 ? (old + 1 + below(stopCount - 1)) % stopCount : stop;
    }

    private int stopCount = 0;
    private int serviceCount = 0;

    private int tripNumber() {
        return number(slow.trips());
    }

    private int callNumber(int trip) {
        return trip < 0 || trip >= slow.trips() ? 0 : number(slow.calls(trip));
    }

    private int laterCall(int trip) {
        boolean isLong = trip >= 0 && trip < slow.trips() && slow.calls(trip) > 1;
        return isLong && below(9) > 0 ? 1 + below(slow.calls(trip) - 1) : callNumber(trip);
    }

    private void mutate(int op) {
        int a = stopNumber();
        int b = stopNumber();
        int day = number(below(4) == 0 ? 28 : 4);
        int trip = tripNumber();
        int call = callNumber(trip);
        if (op <= 1) {
            int change = below(30) == 0 ? number(31) : below(changeGreatest);
            if (op == 0 || below(4) == 0) {
                same(1, "stop " + change, () -> bus.stop(change), () -> slow.stop(change));
                stopCount = Math.min(12, stopCount + (change >= 0 && change <= 30 ? 1 : 0));
            } else {
                same(2, "setChange " + a + " " + change, () -> bus.setChange(a, change), () -> slow.setChange(a, change));
            }
        } else if (op <= 3) {
            if (isLine() && below(25) > 0) {
                return;
            }
            int minutes = below(20) == 0 ? number(61) : below(5) == 0 ? 0 : 1 + below(walkGreatest);
            same(3, "walk " + a + " " + b + " " + minutes, () -> bus.walk(a, b, minutes), () -> slow.walk(a, b, minutes));
            same(4, "walkTime " + b + " " + a, () -> bus.walkTime(b, a), () -> slow.walkTime(b, a));
        } else if (op == 4 || op == 5) {
            if (op == 5 || below(5) == 0) {
                same(5, "service", () -> bus.service(), () -> slow.service());
                serviceCount = Math.min(6, serviceCount + 1);
            }
        } else if (op == 6) {
            serviceDays(day);
        } else if (op <= 8) {
            newTrip();
        } else if (op <= 11) {
            newCall();
        } else if (op == 12) {
            int minutes = below(10) == 0 ? number(122) - 61 : below(41) - 20;
            same(12, "shift " + trip + " " + minutes, () -> bus.shift(trip, minutes), () -> slow.shift(trip, minutes));
        } else if (op == 13) {
            int minutes = below(8) == 0 ? number(121) : below(4) == 0 ? 0 : below(30);
            same(13, "late " + day + " " + trip + " " + call + " " + minutes,
                    () -> bus.late(day, trip, call, minutes), () -> slow.late(day, trip, call, minutes));
            if (below(40) == 0) {
                same(14, "onTime", () -> bus.onTime(), () -> slow.onTime());
            }
        } else if (op == 14) {
            for (int i = 0; i < 5; i++) {
                newWish();
            }
        } else {
            typeRow();
        }
    }

    private void serviceDays(int day) {
        int service = number(serviceCount);
        int days = below(4) == 0 ? number(128) : 127;
        int to = below(3) == 0 ? number(28) : 27;
        boolean isOn = below(3) > 0;
        if (below(2) == 0) {
            same(6, "week " + service + " " + days + " " + day + " " + to,
                    () -> bus.week(service, days, day, to), () -> slow.week(service, days, day, to));
        } else {
            same(7, "putDay " + service + " " + day + " " + isOn,
                    () -> bus.putDay(service, day, isOn), () -> slow.putDay(service, day, isOn));
        }
        same(8, "runsOn " + service + " " + day, () -> bus.runsOn(service, day), () -> slow.runsOn(service, day));
        same(9, "nextDay " + service + " " + day, () -> bus.nextDay(service, day), () -> slow.nextDay(service, day));
    }

    private void newTrip() {
        int service = number(serviceCount);
        int stop = stopNumber();
        int departure = time();
        same(10, "trip " + service + " " + stop + " " + departure,
                () -> bus.trip(service, stop, departure), () -> slow.trip(service, stop, departure));
        int more = 1 + below(kind == 3 ? 8 : isLine() ? 3 : 4) - (below(9) == 0 ? 1 : 0);
        for (int i = 0; i < more; i++) {
            addCall(slow.trips() - 1);
        }
    }

    private void newCall() {
        addCall(tripNumber());
    }

    private void addCall(int trip) {
        boolean isThere = trip >= 0 && trip < slow.trips();
        int old = isThere ? slow.stopAt(trip, slow.calls(trip) - 1) : 0;
        int stop = otherStop(old);
        int ahead = isThere ? slow.timeAt(trip, slow.calls(trip) - 1, false) : 0;
        int arrival = below(30) == 0 ? time() : ahead + below(20) + (below(9) == 0 ? 0 : 1);
        int departure = below(30) == 0 ? time() : arrival + (below(2) == 0 ? 0 : below(5));
        same(11, "call " + trip + " " + stop + " " + arrival + " " + departure,
                () -> bus.call(trip, stop, arrival, departure), () -> slow.call(trip, stop, arrival, departure));
    }

    private void newWish() {
        int trip = tripNumber();
        int call = laterCall(trip);
        int other = tripNumber();
        int otherCall = callNumber(other);
        int travellers = 1 + below(below(9) == 0 ? 100 : 4);
        boolean isThere = trip >= 0 && trip < slow.trips() && call >= 0 && call < slow.calls(trip);
        boolean otherIsThere = other >= 0 && other < slow.trips();
        int on = otherCall;
        if (isThere && otherIsThere && below(8) > 0) {
            for (int i = 0; i < slow.calls(other) - 1; i++) {
                if (slow.stopAt(other, i) == slow.stopAt(trip, call)) {
                    on = i;
                }
            }
        }
        int at = on;
        same(15, "wish " + trip + " " + call + " " + other + " " + at + " " + travellers,
                () -> bus.wish(trip, call, other, at, travellers), () -> slow.wish(trip, call, other, at, travellers));
        if (below(80) == 0) {
            same(16, "dropWishes", () -> bus.dropWishes(), () -> slow.dropWishes());
        }
    }

    private void typeRow() {
        if (below(3) == 0) {
            same(17, "erase", () -> bus.erase(), () -> slow.erase());
        }
        typeNumber(number(serviceCount));
        typeSign(':');
        int calls = 1 + below(below(4) == 0 ? 9 : 3);
        int minute = time();
        int stop = stopNumber();
        for (int i = 0; i < calls; i++) {
            if (i > 0) {
                typeSign(',');
            }
            typeNumber(stop);
            stop = otherStop(stop);
            typeSign('@');
            typeNumber(minute);
            minute += below(5);
            if (i > 0 && below(2) == 0) {
                typeSign('-');
                typeNumber(minute);
            }
            minute += 1 + below(12);
        }
        same(20, "readRow", () -> bus.readRow(), () -> slow.readRow());
        same(21, "faultAt", () -> bus.faultAt(), () -> slow.faultAt());
        same(17, "erase", () -> bus.erase(), () -> slow.erase());
    }

    private void typeNumber(int number) {
        same(18, "typeNumber " + number, () -> bus.typeNumber(number), () -> slow.typeNumber(number));
    }

    private void typeSign(char due) {
        char sign = below(60) == 0 ? ":@,-0x".charAt(below(6)) : due;
        if (below(90) > 0) {
            same(19, "type " + sign, () -> bus.type(sign), () -> slow.type(sign));
        }
    }

    private int beginMinute() {
        int rare = below(40);
        if (kind == 4 && rare > 10) {
            return Math.floorMod(from - below(5), 1440);
        }
        return rare == 0 ? 1440 : rare == 1 ? -1 : rare == 2 ? 1439 : rare < 10 ? below(1440)
                : Math.floorMod(from + below(span) - below(2) * 20, 1440);
    }

    private void askOne(int op) {
        boolean isFar = kind == 4 && stopCount > 5 && below(2) == 0;
        int a = isFar ? below(3) : stopNumber();
        int b = isFar ? stopCount - 1 - below(3) : stopNumber();
        int day = below(30) == 0 ? number(28) : below(4);
        int minute = beginMinute();
        int trip = tripNumber();
        int call = callNumber(trip);
        int index = number(4);
        String way = a + " " + b + " " + day + " " + minute;
        if (op <= 3) {
            same(22, "earliest " + way, () -> bus.earliest(a, b, day, minute), () -> slow.earliest(a, b, day, minute));
            same(23, "queue " + way, () -> bus.earliestByQueue(a, b, day, minute), () -> slow.earliest(a, b, day, minute));
            same(24, "rounds " + way, () -> bus.earliestByRounds(a, b, day, minute), () -> slow.earliest(a, b, day, minute));
            same(25, "byPairs " + way, () -> bus.byPairs(a, b, day, minute), () -> slow.earliest(a, b, day, minute));
        } else if (op <= 5) {
            int before = below(20) == 0 ? number(4320) : minute + below(150);
            same(26, "wall " + a + " " + day + " " + minute + " " + before,
                    () -> bus.wall(a, day, minute, before), () -> slow.wall(a, day, minute, before));
        } else if (op <= 7) {
            int by = below(20) == 0 ? number(2880) : below(4) == 0 ? below(2880) : minute + below(200);
            same(27, "last " + a + " " + b + " " + day + " " + by, () -> bus.last(a, b, day, by), () -> slow.last(a, b, day, by));
        } else if (op <= 11) {
            same(28, "chain " + way, () -> bus.chain(a, b, day, minute), () -> slow.chain(a, b, day, minute));
            askRides();
        } else if (op <= 13) {
            same(30, "onBoard " + day + " " + trip + " " + call + " " + b,
                    () -> bus.onBoard(day, trip, call, b), () -> slow.onBoard(day, trip, call, b));
        } else if (op <= 16) {
            boolean isArrival = below(2) == 0;
            same(31, "pairs " + a + " " + b + " " + day, () -> bus.pairs(a, b, day), () -> slow.pairs(a, b, day));
            same(32, "pair " + a + " " + b + " " + day + " " + index + " " + isArrival,
                    () -> bus.pair(a, b, day, index, isArrival), () -> slow.pair(a, b, day, index, isArrival));
        } else if (op <= 19) {
            same(33, "choices " + way, () -> bus.choices(a, b, day, minute), () -> slow.choices(a, b, day, minute));
            same(34, "choice " + way + " " + index,
                    () -> bus.choice(a, b, day, minute, index), () -> slow.choice(a, b, day, minute, index));
        } else if (op <= 25) {
            askMore(op, day, trip, call);
        } else {
            askFigures(op, a, day, trip, call);
        }
    }

    private void askRides() {
        for (int i = -1; i < 5; i++) {
            int index = i;
            for (char what : below(10) == 0 ? "tdofx".toCharArray() : "tdof".toCharArray()) {
                same(29, "ride " + index + " " + what, () -> bus.ride(index, what), () -> slow.ride(index, what));
            }
        }
    }

    private void askMore(int op, int day, int trip, int call) {
        int other = tripNumber();
        int otherCall = callNumber(other);
        int stop = stopNumber();
        if (op <= 21) {
            int off = laterCall(trip);
            same(35, "holds " + day + " " + trip + " " + off + " " + other + " " + otherCall,
                    () -> bus.holds(day, trip, off, other, otherCall), () -> slow.holds(day, trip, off, other, otherCall));
        } else if (op == 22) {
            int mask = below(9) == 0 ? number(64) : below(2) * below(64);
            same(36, "waitCost " + day + " " + mask, () -> bus.waitCost(day, mask), () -> slow.waitCost(day, mask));
            same(36, "waitCost " + day + " 1", () -> bus.waitCost(day, 1), () -> slow.waitCost(day, 1));
            same(36, "waitCost " + day + " 3", () -> bus.waitCost(day, 3), () -> slow.waitCost(day, 3));
            same(37, "bestWaits " + day, () -> bus.bestWaits(day), () -> slow.bestWaits(day));
        } else if (op == 23) {
            same(38, "lost " + stop + " " + day, () -> bus.lost(stop, day), () -> slow.lost(stop, day));
            if (below(3) == 0) {
                same(39, "bridges " + day, () -> bus.bridges(day), () -> slow.bridges(day));
            }
        } else {
            same(40, "vehicles " + day, () -> bus.vehicles(day), () -> slow.vehicles(day));
            same(41, "byMatching " + day, () -> bus.vehiclesByMatching(day), () -> slow.vehicles(day));
        }
    }

    private void askFigures(int op, int stop, int day, int trip, int call) {
        int minutes = below(10) == 0 ? number(122) - 61 : below(41) - 20;
        int minute = beginMinute();
        boolean isArrival = below(2) == 0;
        String shift = trip + " " + minutes + " " + day + " " + minute;
        if (op == 26) {
            same(42, "gains " + shift, () -> bus.gains(trip, minutes, day, minute), () -> slow.gains(trip, minutes, day, minute));
            same(43, "loses " + shift, () -> bus.loses(trip, minutes, day, minute), () -> slow.loses(trip, minutes, day, minute));
        } else if (op == 27) {
            same(44, "reachShare " + day, () -> bus.reachShare(day), () -> slow.reachShare(day));
            same(45, "meanBetween", () -> bus.meanBetween(), () -> slow.meanBetween());
        } else if (op == 28) {
            same(46, "checksum", () -> bus.checksum(), () -> slow.checksum());
            if (day >= 0 && day < 28) {
                same(47, "isSound " + day, () -> bus.isSound(day), () -> true);
            }
        } else {
            same(48, "trips", () -> bus.trips(), () -> slow.trips());
            same(49, "calls " + trip, () -> bus.calls(trip), () -> slow.calls(trip));
            same(50, "stopAt " + trip + " " + call, () -> bus.stopAt(trip, call), () -> slow.stopAt(trip, call));
            same(51, "timeAt " + trip + " " + call + " " + isArrival,
                    () -> bus.timeAt(trip, call, isArrival), () -> slow.timeAt(trip, call, isArrival));
            same(52, "lateness " + day + " " + trip + " " + call,
                    () -> bus.lateness(day, trip, call), () -> slow.lateness(day, trip, call));
        }
    }

    public static void main(String[] args) {
        int first = args.length > 0 ? Integer.parseInt(args[0]) : 0;
        int count = args.length > 1 ? Integer.parseInt(args[1]) : 60;
        for (int run = first; run < first + count && wrong == 0; run++) {
            new CompareTests(run).run();
            for (int part = 0; part < 3 && wrong == 0; part++) {
                new CompareTests(3 * run + part).runLadder();
            }
        }
        if (args.length > 2) {
            for (int op = 1; op < 53; op++) {
                System.out.println(op + ": " + ANSWERED[op] + " answers, " + THREW[op] + " exceptions");
            }
        }
        System.out.println("CompareTests: " + compared + " calls compared, " + wrong + " wrong");
        if (wrong > 0) {
            System.exit(1);
        }
    }
}
