import java.util.function.Supplier;

/** Tables that tests begin with, and what is asked of a table to see all that stands in it. */
class Tables {
    static final int LEAST = Integer.MIN_VALUE;
    static final int GREATEST = Integer.MAX_VALUE;
    /** A table row of 80 signs, with each kind of number that a row can have. */
    static final String LONGEST_ROW =
            "0000:0000@0005,0001@0010-0011,0000@0020-0021,0001@0030-0031,0000@0040-0041,1@100";

    static Lastbus stops(int... changes) {
        Lastbus x = new Lastbus();
        for (int change : changes) {
            x.stop(change);
        }
        return x;
    }

    /** Stops, and the service 0 on all days. */
    static Lastbus daily(int... changes) {
        Lastbus x = stops(changes);
        x.service();
        x.week(0, 127, 0, 27);
        return x;
    }

    /** Stops, and the service 0 on one day. */
    static Lastbus onDay(int day, int... changes) {
        Lastbus x = stops(changes);
        x.service();
        x.putDay(0, day, true);
        return x;
    }

    /** Adds a trip of the service 0: stop, departure, then stop and arrival, which is the departure too, and so on. */
    static int ride(Lastbus x, int... rows) {
        int trip = x.trip(0, rows[0], rows[1]);
        for (int i = 2; i < rows.length; i += 2) {
            x.call(trip, rows[i], rows[i + 1], rows[i + 1]);
        }
        return trip;
    }

    static void type(Lastbus x, String text) {
        for (char sign : text.toCharArray()) {
            x.type(sign);
        }
    }

    static Lastbus typed(Lastbus x, String text) {
        x.erase();
        type(x, text);
        return x;
    }

    /** The numbers just outside of a range, and the farthest ones. */
    static int[] outside(int least, int greatest) {
        return new int[] {least - 1, greatest + 1, LEAST, GREATEST};
    }

    /**
     * Something of all that a table can hold: stops 0 to 4, of which none leads to 4; services 0 daily, 1 on day 4, 2 on no
     * day; trips 0 to 3, with 3, 2, 2 and 1 calls, of which 2 runs on day 4 alone; wishes, lateness, a chain, a fault, a text.
     */
    static Lastbus rich() {
        Lastbus x = daily(3, 4, 2, 0, 5);
        x.walk(2, 3, 6);
        x.service();
        x.putDay(1, 4, true);
        x.service();
        x.trip(0, 0, 480);
        x.call(0, 1, 490, 492);
        x.call(0, 2, 500, 500);
        ride(x, 1, 494, 2, 497);
        x.trip(1, 1, 495);
        x.call(2, 0, 505, 505);
        x.trip(0, 2, 1430);
        x.wish(0, 1, 1, 0, 5);
        x.wish(0, 1, 2, 0, 7);
        x.late(3, 0, 1, 9);
        x.late(4, 1, 0, 10);
        type(x, "0:x");
        failToRead(x);
        x.chain(0, 2, 3, 470);
        return typed(x, "0:0@600,1@610-612");
    }

    /** A table in which there is no room for one more of anything: stops, services, trips, calls, wishes, lateness, signs. */
    static Lastbus full() {
        Lastbus x = new Lastbus();
        for (int stop = 0; stop < 12; stop++) {
            x.stop(stop);
        }
        for (int service = 0; service < 6; service++) {
            x.service();
        }
        x.week(0, 127, 0, 27);
        ride(x, 0, 100, 1, 110, 0, 120, 1, 130, 0, 140, 1, 150, 0, 160, 2, 170);
        ride(x, 2, 172, 3, 180);
        for (int trip = 2; trip < 24; trip++) {
            x.trip(trip % 6, trip % 12, 2879);
        }
        for (int number = 0; number < 6; number++) {
            x.wish(0, 7, 1, 0, number + 1);
        }
        for (int day = 0; day < 12; day++) {
            x.late(day, 0, 0, day + 1);
        }
        type(x, "0:");
        failToRead(x);
        x.chain(0, 3, 1, 100);
        return typed(x, LONGEST_ROW);
    }

    private static void failToRead(Lastbus x) {
        try {
            x.readRow();
        } catch (IllegalArgumentException due) {
            return;
        }
        throw new IllegalStateException("a text that is no row was read");
    }

    /** All that can be seen of a table, a line for each answer; the last questions change it. */
    static String asked(Lastbus x) {
        StringBuilder all = new StringBuilder();
        note(all, "fault", () -> x.faultAt());
        note(all, "checksum", () -> x.checksum());
        note(all, "trips", () -> x.trips());
        askWalksAndDays(all, x);
        askLateness(all, x);
        askWaysAndChain(all, x);
        askWaits(all, x);
        takeAll(all, x);
        return all.toString();
    }

    private static void note(StringBuilder all, String name, Supplier<Object> call) {
        Object answer;
        try {
            answer = call.get();
        } catch (RuntimeException thrown) {
            answer = thrown.getClass().getSimpleName();
        }
        all.append(name).append(' ').append(answer).append('\n');
    }

    private static void askWalksAndDays(StringBuilder all, Lastbus x) {
        for (int pair = 0; pair < 36; pair++) {
            int stop = pair / 6;
            int other = pair % 6;
            note(all, "walkTime " + stop + " " + other, () -> x.walkTime(stop, other));
        }
        for (int service = 0; service < 6; service++) {
            int of = service;
            note(all, "nextDay " + service, () -> x.nextDay(of, 0));
        }
        note(all, "calls of 0", () -> x.calls(0));
    }

    private static void askLateness(StringBuilder all, Lastbus x) {
        for (int day = 0; day < 28; day++) {
            for (int trip = 0; trip < (day < 6 ? 4 : 1); trip++) {
                for (int call = 0; call < 2; call++) {
                    int on = day;
                    int of = trip;
                    int at = call;
                    note(all, "lateness " + on + " " + of + " " + at, () -> x.lateness(on, of, at));
                }
            }
        }
    }

    private static void askWaysAndChain(StringBuilder all, Lastbus x) {
        for (int index = 0; index < 3; index++) {
            for (char what : "tdof".toCharArray()) {
                int of = index;
                note(all, "ride " + index + " " + what, () -> x.ride(of, what));
            }
        }
        note(all, "earliest", () -> x.earliest(0, 2, 3, 470));
        note(all, "wall", () -> x.wall(0, 4, 0, 4319));
        note(all, "pairs", () -> x.pairs(0, 2, 4));
        note(all, "vehicles", () -> x.vehicles(4));
        note(all, "reachShare", () -> x.reachShare(4));
        note(all, "meanBetween", () -> x.meanBetween());
    }

    private static void askWaits(StringBuilder all, Lastbus x) {
        for (int day = 3; day < 5; day++) {
            int on = day;
            for (int mask : new int[] {0, 1, 2, 3, 4, 8, 16, 32}) {
                note(all, "waitCost " + day + " " + mask, () -> x.waitCost(on, mask));
            }
            note(all, "bestWaits " + day, () -> x.bestWaits(on));
        }
    }

    private static void takeAll(StringBuilder all, Lastbus x) {
        note(all, "readRow", () -> x.readRow());
        note(all, "checksum then", () -> x.checksum());
        note(all, "fault then", () -> x.faultAt());
        note(all, "erase", () -> x.erase());
        note(all, "dropWishes", () -> x.dropWishes());
        note(all, "onTime", () -> x.onTime());
        for (int pair = 0; pair < 36; pair++) {
            int stop = pair / 6;
            int other = pair % 6;
            if (stop < other) {
                note(all, "walk " + stop + " " + other, () -> x.walk(stop, other, 0));
            }
        }
    }
}
