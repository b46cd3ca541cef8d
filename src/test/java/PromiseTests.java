import java.util.NoSuchElementException;
import java.util.function.Supplier;

/** For each promise of the document: ordinary inputs, the edges that it names, and wrong inputs, with written answers. */
public final class PromiseTests extends Tables {
    private static final Class<?> INDEX = IndexOutOfBoundsException.class;
    private static final Class<?> ARGUMENT = IllegalArgumentException.class;
    private static final Class<?> STATE = IllegalStateException.class;
    private static final Class<?> ELEMENT = NoSuchElementException.class;
    private static final Class<?> SUPPORT = UnsupportedOperationException.class;
    private static final Class<?> ARITHMETIC = ArithmeticException.class;
    private static int tests = 0;
    private static int wrong = 0;
    private static String promise = "";

    private static void due(Object want, Object got) {
        tests++;
        if (!want.equals(got)) {
            wrong++;
            StackTraceElement at = new Throwable().getStackTrace()[1];
            System.out.println(promise + ", line " + at.getLineNumber() + ": answered " + got + ", due is " + want);
        }
    }

    private static void fails(Class<?> want, Supplier<Object> call) {
        tests++;
        Object got;
        try {
            got = call.get();
        } catch (RuntimeException thrown) {
            got = thrown.getClass();
        }
        if (got != want) {
            wrong++;
            StackTraceElement at = new Throwable().getStackTrace()[1];
            System.out.println(promise + ", line " + at.getLineNumber() + ": " + got + ", due is " + want);
        }
    }

    private static void late(Lastbus x, int day, int trip, int call, int minutes) {
        x.late(day, trip, call, minutes);
    }

    // 1 to 5: stops and walks

    private static void newObject() {
        Lastbus x = new Lastbus();
        due(0, x.trips());
        due(7L * 31, x.checksum());
        fails(INDEX, () -> x.setChange(0, 0));
        fails(INDEX, () -> x.runsOn(0, 0));
        fails(ELEMENT, () -> x.faultAt());
        fails(ELEMENT, () -> x.ride(0, 't'));
        due(0, x.onTime());
        due(0, x.dropWishes());
        due(0, x.erase());
        due(0, x.vehicles(0));
        due(0, x.vehiclesByMatching(0));
        due(0, x.bestWaits(0));
        due(0, x.waitCost(0, 0));
        due(0, x.bridges(0));
        due(true, x.isSound(0));
    }

    private static void stop() {
        Lastbus x = new Lastbus();
        due(0, x.stop(0));
        due(1, x.stop(30));
        fails(ARGUMENT, () -> x.stop(31));
        fails(ARGUMENT, () -> x.stop(-1));
        fails(ARGUMENT, () -> x.stop(LEAST));
        fails(ARGUMENT, () -> x.stop(GREATEST));
        for (int i = 2; i < 12; i++) {
            due(i, x.stop(i));
        }
        fails(STATE, () -> x.stop(5));
        fails(ARGUMENT, () -> x.stop(31));
        due(11, x.setChange(11, 0));
        fails(INDEX, () -> x.setChange(12, 0));
    }

    private static void setChange() {
        Lastbus x = stops(3, 4);
        due(3, x.setChange(0, 30));
        due(30, x.setChange(0, 0));
        due(0, x.setChange(0, 7));
        due(4, x.setChange(1, 4));
        fails(INDEX, () -> x.setChange(2, 3));
        fails(INDEX, () -> x.setChange(-1, 31));
        fails(ARGUMENT, () -> x.setChange(0, 31));
        fails(ARGUMENT, () -> x.setChange(0, -1));
        due(7, x.setChange(0, 1));
    }

    private static void walk() {
        Lastbus x = stops(0, 0, 0);
        due(0, x.walk(0, 1, 60));
        due(60, x.walk(1, 0, 1));
        due(1, x.walk(0, 1, 9));
        due(9, x.walkTime(1, 0));
        due(9, x.walk(1, 0, 0));
        due(0, x.walk(0, 1, 0));
        fails(ELEMENT, () -> x.walkTime(0, 1));
        fails(ARGUMENT, () -> x.walk(0, 1, 61));
        fails(ARGUMENT, () -> x.walk(0, 1, -1));
        fails(ARGUMENT, () -> x.walk(2, 2, 5));
        fails(INDEX, () -> x.walk(3, 3, 5));
        fails(INDEX, () -> x.walk(0, 3, 61));
        fails(INDEX, () -> x.walk(-1, 0, 5));
        due(0, x.walk(2, 0, 5));
    }

    private static void walkTime() {
        Lastbus x = stops(0, 0, 0, 0, 0);
        x.walk(0, 1, 60);
        x.walk(1, 2, 60);
        x.walk(2, 3, 60);
        due(180, x.walkTime(0, 3));
        due(180, x.walkTime(3, 0));
        x.walk(0, 3, 59);
        due(59, x.walkTime(0, 3));
        due(119, x.walkTime(0, 2));
        due(0, x.walkTime(4, 4));
        due(0, x.walkTime(1, 1));
        fails(ELEMENT, () -> x.walkTime(0, 4));
        fails(ELEMENT, () -> x.walkTime(4, 0));
        fails(INDEX, () -> x.walkTime(0, 5));
        fails(INDEX, () -> x.walkTime(5, 5));
        Lastbus y = stops(0, 0, 0, 0, 0, 0, 0, 0, 0, 0, 0, 0);
        for (int stop = 0; stop < 11; stop++) {
            y.walk(stop + 1, stop, 60);
        }
        due(660, y.walkTime(0, 11));
        due(600, y.walkTime(11, 1));
        fails(INDEX, () -> x.walkTime(-1, 0));
    }

    // 6 to 10: services

    private static void service() {
        Lastbus x = new Lastbus();
        for (int i = 0; i < 6; i++) {
            due(i, x.service());
            for (int day = 0; day < 28; day++) {
                due(false, x.runsOn(i, day));
            }
        }
        fails(STATE, () -> x.service());
        fails(INDEX, () -> x.runsOn(6, 0));
    }

    private static void week() {
        Lastbus x = new Lastbus();
        x.service();
        x.service();
        due(0, x.week(0, 0, 0, 27));
        due(2, x.week(0, 1, 0, 13));
        due(true, x.runsOn(0, 0));
        due(true, x.runsOn(0, 7));
        due(false, x.runsOn(0, 14));
        due(false, x.runsOn(0, 1));
        due(3, x.week(0, 127, 27, 27));
        due(3, x.week(0, 127, 0, 0));
        due(4, x.week(0, 64, 6, 6));
        due(4, x.week(0, 63, 13, 13));
        due(28, x.week(1, 127, 0, 27));
        fails(INDEX, () -> x.week(2, 128, 0, 27));
        fails(INDEX, () -> x.week(-1, 1, 0, 27));
        fails(ARGUMENT, () -> x.week(0, 128, 0, 27));
        fails(ARGUMENT, () -> x.week(0, -1, 0, 27));
        fails(ARGUMENT, () -> x.week(0, 1, -1, 27));
        fails(ARGUMENT, () -> x.week(0, 1, 0, 28));
        fails(ARGUMENT, () -> x.week(0, 1, 28, 28));
        fails(ARGUMENT, () -> x.week(0, 127, 5, 4));
        due(4, x.week(0, 0, 5, 5));
    }

    private static void putDay() {
        Lastbus x = new Lastbus();
        x.service();
        due(false, x.putDay(0, 27, true));
        due(true, x.putDay(0, 27, true));
        due(true, x.runsOn(0, 27));
        due(true, x.putDay(0, 27, false));
        due(false, x.putDay(0, 27, false));
        due(false, x.runsOn(0, 27));
        due(false, x.putDay(0, 0, true));
        fails(INDEX, () -> x.putDay(1, 28, true));
        fails(ARGUMENT, () -> x.putDay(0, 28, true));
        fails(ARGUMENT, () -> x.putDay(0, -1, true));
    }

    private static void runsOn() {
        Lastbus x = new Lastbus();
        x.service();
        x.service();
        x.putDay(1, 3, true);
        due(true, x.runsOn(1, 3));
        due(false, x.runsOn(0, 3));
        due(false, x.runsOn(1, 2));
        due(false, x.runsOn(1, 4));
        fails(INDEX, () -> x.runsOn(2, 3));
        fails(INDEX, () -> x.runsOn(-1, 28));
        fails(ARGUMENT, () -> x.runsOn(1, 28));
        fails(ARGUMENT, () -> x.runsOn(1, -1));
        fails(ARGUMENT, () -> x.runsOn(1, 35));
    }

    private static void nextDay() {
        Lastbus x = new Lastbus();
        x.service();
        fails(ELEMENT, () -> x.nextDay(0, 0));
        x.putDay(0, 5, true);
        x.putDay(0, 27, true);
        due(5, x.nextDay(0, 0));
        due(5, x.nextDay(0, 5));
        due(27, x.nextDay(0, 6));
        due(27, x.nextDay(0, 27));
        x.putDay(0, 27, false);
        fails(ELEMENT, () -> x.nextDay(0, 6));
        fails(ARGUMENT, () -> x.nextDay(0, 28));
        fails(ARGUMENT, () -> x.nextDay(0, -1));
        fails(INDEX, () -> x.nextDay(1, 28));
    }

    // 11 to 17: trips

    private static void trip() {
        Lastbus x = daily(0, 0);
        due(0, x.trip(0, 1, 2879));
        due(1, x.trips());
        due(1, x.calls(0));
        due(1, x.stopAt(0, 0));
        due(2879, x.timeAt(0, 0, true));
        due(2879, x.timeAt(0, 0, false));
        fails(INDEX, () -> x.trip(1, 0, 2880));
        fails(INDEX, () -> x.trip(-1, 0, 0));
        fails(INDEX, () -> x.trip(0, 2, -1));
        fails(INDEX, () -> x.trip(0, -1, 0));
        fails(ARGUMENT, () -> x.trip(0, 0, 2880));
        fails(ARGUMENT, () -> x.trip(0, 0, -1));
        for (int i = 1; i < 24; i++) {
            due(i, x.trip(0, 0, 0));
        }
        fails(STATE, () -> x.trip(0, 0, 0));
        fails(ARGUMENT, () -> x.trip(0, 0, 2880));
        due(24, x.trips());
    }

    private static void call() {
        Lastbus x = daily(0, 0);
        x.trip(0, 0, 100);
        fails(ARGUMENT, () -> x.call(0, 1, 100, 101));
        due(2, x.call(0, 1, 101, 101));
        fails(ARGUMENT, () -> x.call(0, 1, 110, 110));
        fails(ARGUMENT, () -> x.call(0, 0, 110, 109));
        fails(ARGUMENT, () -> x.call(0, 0, 101, 110));
        fails(ARGUMENT, () -> x.call(0, 0, -1, 110));
        fails(ARGUMENT, () -> x.call(0, 0, 110, 2880));
        fails(ARGUMENT, () -> x.call(0, 0, 2880, 2880));
        fails(ARGUMENT, () -> x.call(0, 0, GREATEST, LEAST));
        fails(INDEX, () -> x.call(1, 0, 110, 109));
        fails(INDEX, () -> x.call(0, 2, 110, 109));
        fails(INDEX, () -> x.call(0, -1, 110, 110));
        due(3, x.call(0, 0, 110, 120));
        fails(ARGUMENT, () -> x.call(0, 1, 120, 121));
        for (int i = 4; i <= 8; i++) {
            due(i, x.call(0, i % 2 == 0 ? 1 : 0, 120 + i, 120 + i));
        }
        fails(STATE, () -> x.call(0, 0, 200, 200));
        fails(ARGUMENT, () -> x.call(0, 1, 200, 200));
        due(8, x.calls(0));
        x.trip(0, 0, 2878);
        due(2, x.call(1, 1, 2879, 2879));
    }

    private static void trips() {
        Lastbus x = daily(0, 0);
        due(0, x.trips());
        ride(x, 0, 10, 1, 20);
        due(1, x.trips());
        fails(ARGUMENT, () -> x.trip(0, 0, -1));
        due(1, x.trips());
        type(x, "0:0@5");
        x.readRow();
        due(2, x.trips());
    }

    private static void calls() {
        Lastbus x = daily(0, 0);
        ride(x, 0, 10, 1, 20, 0, 30);
        ride(x, 0, 10);
        due(3, x.calls(0));
        due(1, x.calls(1));
        fails(INDEX, () -> x.calls(2));
        fails(INDEX, () -> x.calls(-1));
        fails(INDEX, () -> x.calls(24));
    }

    private static void stopAt() {
        Lastbus x = daily(0, 0, 0);
        ride(x, 2, 10, 1, 20, 2, 30);
        due(2, x.stopAt(0, 0));
        due(1, x.stopAt(0, 1));
        due(2, x.stopAt(0, 2));
        fails(INDEX, () -> x.stopAt(0, 3));
        fails(INDEX, () -> x.stopAt(0, -1));
        fails(INDEX, () -> x.stopAt(0, 8));
        fails(INDEX, () -> x.stopAt(1, 0));
        fails(INDEX, () -> x.stopAt(-1, 0));
    }

    private static void timeAt() {
        Lastbus x = daily(0, 0, 0);
        ride(x, 2, 10);
        x.call(0, 1, 20, 25);
        late(x, 0, 0, 0, 50);
        due(10, x.timeAt(0, 0, true));
        due(10, x.timeAt(0, 0, false));
        due(20, x.timeAt(0, 1, true));
        due(25, x.timeAt(0, 1, false));
        fails(INDEX, () -> x.timeAt(0, 2, false));
        fails(INDEX, () -> x.timeAt(0, -1, true));
        fails(INDEX, () -> x.timeAt(1, 0, true));
    }

    private static void shift() {
        Lastbus x = daily(0, 0, 0);
        ride(x, 0, 60);
        x.call(0, 1, 70, 75);
        due(0, x.shift(0, -60));
        due(10, x.timeAt(0, 1, true));
        due(15, x.timeAt(0, 1, false));
        fails(ARGUMENT, () -> x.shift(0, -1));
        due(0, x.timeAt(0, 0, true));
        due(60, x.shift(0, 60));
        due(60, x.shift(0, 0));
        fails(ARGUMENT, () -> x.shift(0, 61));
        fails(ARGUMENT, () -> x.shift(0, -61));
        fails(ARGUMENT, () -> x.shift(0, LEAST));
        for (int i = 2; i < 8; i++) {
            x.call(0, i % 2, 100 + i, 100 + i);
        }
        due(59, x.shift(0, -1));
        due(106, x.timeAt(0, 7, true));
        due(106, x.timeAt(0, 7, false));
        due(60, x.shift(0, 1));
        fails(INDEX, () -> x.shift(1, 61));
        fails(INDEX, () -> x.shift(-1, 0));
        ride(x, 0, 2800);
        x.call(1, 1, 2810, 2860);
        fails(ARGUMENT, () -> x.shift(1, 20));
        due(2819, x.shift(1, 19));
        due(2879, x.timeAt(1, 1, false));
    }

    // 18 to 22: texts

    private static void type() {
        Lastbus x = daily(0, 0);
        due(1, x.type('0'));
        due(2, x.type(' '));
        due(3, x.type((char) 0));
        due(4, x.type((char) 65535));
        for (int i = 5; i <= 80; i++) {
            due(i, x.type('9'));
        }
        fails(STATE, () -> x.type('9'));
        due(80, x.erase());
        due(1, x.type('9'));
    }

    private static void typeNumber() {
        Lastbus x = daily(0, 0, 0, 0, 0, 0, 0, 0, 0, 0, 0);
        due(1, x.typeNumber(0));
        x.type(':');
        due(4, x.typeNumber(10));
        x.type('@');
        due(9, x.typeNumber(1005));
        due(0, x.readRow());
        due(10, x.stopAt(0, 0));
        due(1005, x.timeAt(0, 0, false));
        due(3, x.typeNumber(100));
        due(7, x.typeNumber(9999));
        due(8, x.typeNumber(9));
        due(10, x.typeNumber(99));
        due(13, x.typeNumber(999));
        due(17, x.typeNumber(1000));
        fails(ARGUMENT, () -> x.typeNumber(10000));
        fails(ARGUMENT, () -> x.typeNumber(-1));
        for (int i = 18; i <= 77; i++) {
            x.type('1');
        }
        fails(STATE, () -> x.typeNumber(1000));
        fails(ARGUMENT, () -> x.typeNumber(10000));
        due(80, x.typeNumber(100));
        fails(STATE, () -> x.typeNumber(0));
        due(80, x.erase());
        for (int number : new int[] {9, 99, 999, 9999}) {
            int digits = String.valueOf(number).length();
            for (int i = 0; i < 80 - digits; i++) {
                x.type('1');
            }
            due(80, x.typeNumber(number));
            x.erase();
            for (int i = 0; i < 81 - digits; i++) {
                x.type('1');
            }
            fails(STATE, () -> x.typeNumber(number));
            due(81 - digits, x.erase());
        }
    }

    private static void erase() {
        Lastbus x = daily(0, 0);
        due(0, x.erase());
        type(x, "0:0@");
        due(4, x.erase());
        due(0, x.erase());
        type(x, "0:1@7");
        due(0, x.readRow());
        due(0, x.erase());
    }

    private static void readRow() {
        Lastbus x = daily(0, 0, 0);
        type(x, "0:0@0600,1@0610,2@0620-625,0@1000-1000");
        due(0, x.readRow());
        due(4, x.calls(0));
        due(600, x.timeAt(0, 0, false));
        due(610, x.timeAt(0, 1, true));
        due(610, x.timeAt(0, 1, false));
        due(620, x.timeAt(0, 2, true));
        due(625, x.timeAt(0, 2, false));
        due(0, x.stopAt(0, 3));
        due(1000, x.timeAt(0, 3, false));
        due(0, x.erase());
        for (String row : new String[] {"1:0@5", "0:3@5", "0:0@2880", "0:0@5,0@6", "0:0@5,1@5", "0:0@5,1@7-6",
            "0:0@5,3@7", "0:0@5,1@2880", "0:0@5,1@6-2880", "0:0@5,1@9-12,0@12", "9999:0@5",
            "0:0@1,1@2,0@3,1@4,0@5,1@6,0@7,1@8,0@9"}) {
            type(x, row);
            fails(SUPPORT, () -> x.readRow());
            due(row.length(), x.erase());
        }
        fails(ELEMENT, () -> x.faultAt());
        type(x, "0:0@1,1@2,0@3,1@4,0@5,1@6,0@7,1@8");
        due(1, x.readRow());
        due(8, x.calls(1));
        for (int i = 2; i < 24; i++) {
            type(x, "0:0@2879");
            due(i, x.readRow());
        }
        type(x, "0:0@9");
        fails(STATE, () -> x.readRow());
        due(5, x.erase());
        type(x, "0:7@9");
        fails(SUPPORT, () -> x.readRow());
        type(x, "x");
        fails(ARGUMENT, () -> x.readRow());
        due(6, x.erase());
        due(24, x.trips());
    }

    private static void faultAt() {
        Lastbus x = daily(0, 0, 0);
        String[] rows = {"", "0", "0:", "0:0", "0:0@", "x", ":", "0x", "0@", "0:@", "0:0:", "0:0@x", "0:0@5-6", "0:0@5x",
            "0:0@5,", "0:0@5,1", "0:0@5,1@", "0:0@5,1@6-", "0:0@5,1@6-7-", "0:0@5,1@6-7,", "0:0@5,1@6-x", "0:0@5,,",
            "00000:0@5", "0:00000@5", "0:0@00000", "0:0@5,1@60000", "0:0@5,1@6-70000", " 0:0@5", "0:0@5 ", "0:0@5,1@6/",
            "0:0@5,1@6:"};
        int[] places = {0, 1, 2, 3, 4, 0, 0, 1, 1, 2, 3, 4, 5, 5,
            6, 7, 8, 10, 11, 12, 10, 6,
            4, 6, 8, 12, 14, 0, 5, 9,
            9};
        fails(ELEMENT, () -> x.faultAt());
        for (int i = 0; i < rows.length; i++) {
            type(x, rows[i]);
            fails(ARGUMENT, () -> x.readRow());
            due(places[i], x.faultAt());
            due(rows[i].length(), x.erase());
            due(places[i], x.faultAt());
        }
        type(x, "0:0@5");
        due(0, x.readRow());
        due(9, x.faultAt());
        type(x, "7:0@5");
        fails(SUPPORT, () -> x.readRow());
        due(9, x.faultAt());
        type(x, (char) 1 + "");
        fails(ARGUMENT, () -> x.readRow());
        due(5, x.faultAt());
    }

    // 23 to 25: lateness

    private static void late() {
        Lastbus x = daily(0, 0);
        ride(x, 0, 100, 1, 110, 0, 120);
        due(0, x.late(3, 0, 1, 120));
        due(100, x.earliest(0, 0, 3, 100));
        due(110, x.earliest(0, 1, 3, 100));
        due(240, x.earliest(1, 0, 3, 115));
        due(120, x.earliest(1, 0, 4, 105));
        due(120, x.late(3, 0, 0, 5));
        due(115, x.earliest(0, 1, 3, 105));
        due(5, x.late(3, 0, 2, 0));
        due(0, x.late(3, 0, 2, 0));
        due(110, x.earliest(0, 1, 3, 100));
        fails(INDEX, () -> x.late(28, 1, 0, 5));
        fails(INDEX, () -> x.late(0, 0, 3, 121));
        fails(INDEX, () -> x.late(0, 0, -1, 5));
        fails(ARGUMENT, () -> x.late(28, 0, 0, 5));
        fails(ARGUMENT, () -> x.late(-1, 0, 0, 5));
        fails(ARGUMENT, () -> x.late(0, 0, 0, 121));
        fails(ARGUMENT, () -> x.late(0, 0, 0, -1));
        for (int day = 0; day < 12; day++) {
            due(0, x.late(day, 0, 0, day + 1));
        }
        fails(STATE, () -> x.late(12, 0, 0, 1));
        fails(ARGUMENT, () -> x.late(12, 0, 0, 121));
        due(0, x.late(12, 0, 0, 0));
        due(4, x.late(3, 0, 1, 9));
        due(9, x.late(3, 0, 1, 0));
        due(12, x.lateness(11, 0, 0));
        due(1, x.lateness(0, 0, 0));
        due(0, x.late(12, 0, 0, 1));
        fails(STATE, () -> x.late(3, 0, 0, 1));
    }

    private static void lateness() {
        Lastbus x = stops(0, 0);
        x.service();
        ride(x, 0, 100, 1, 110, 0, 120);
        ride(x, 0, 100);
        late(x, 3, 0, 1, 7);
        due(0, x.lateness(3, 0, 0));
        due(7, x.lateness(3, 0, 1));
        due(7, x.lateness(3, 0, 2));
        due(0, x.lateness(2, 0, 1));
        due(0, x.lateness(3, 1, 0));
        x.call(0, 1, 130, 130);
        due(7, x.lateness(3, 0, 3));
        fails(INDEX, () -> x.lateness(28, 2, 0));
        fails(INDEX, () -> x.lateness(3, 0, 4));
        fails(INDEX, () -> x.lateness(3, 1, 1));
        fails(INDEX, () -> x.lateness(3, 0, -1));
        fails(ARGUMENT, () -> x.lateness(28, 0, 0));
        fails(ARGUMENT, () -> x.lateness(-1, 0, 0));
    }

    private static void onTime() {
        Lastbus x = daily(0, 0);
        ride(x, 0, 100, 1, 110);
        late(x, 3, 0, 0, 7);
        late(x, 4, 0, 0, 7);
        late(x, 4, 0, 1, 8);
        late(x, 5, 0, 0, 0);
        due(2, x.onTime());
        due(0, x.onTime());
        due(0, x.lateness(3, 0, 0));
        due(110, x.earliest(0, 1, 4, 100));
    }

    // 26 to 33: ways

    private interface Way {
        int ask(Lastbus x, int from, int to, int day, int minute);
    }

    /** At each stop the minutes for changing are its own, at the first one and at the last one too. */
    private static void changeAt(Way way, int stops, int at) {
        Lastbus x = new Lastbus();
        for (int stop = 0; stop < stops; stop++) {
            x.stop(stop == at ? 7 : 0);
        }
        x.service();
        x.putDay(0, 3, true);
        int from = (at + 1) % stops;
        int to = (at + 2) % stops;
        ride(x, from, 100, at, 110);
        ride(x, at, 116, to, 120);
        ride(x, at, 117, to, 121);
        due(121, way.ask(x, from, to, 3, 100));
        due(120, way.ask(x, at, to, 3, 116));
    }

    /** What earliest, earliestByQueue, earliestByRounds and byPairs promise alike. */
    private static void likeEarliest(Way way) {
        Lastbus x = daily(3, 4, 2, 0);
        ride(x, 0, 480, 1, 490, 2, 500);
        ride(x, 1, 494, 2, 497);
        ride(x, 1, 493, 2, 496);
        due(497, way.ask(x, 0, 2, 3, 480));
        due(497 + 1440, way.ask(x, 0, 2, 3, 481));
        x.setChange(1, 3);
        due(496, way.ask(x, 0, 2, 3, 480));
        x.setChange(1, 5);
        due(500, way.ask(x, 0, 2, 3, 0));
        due(496, way.ask(x, 1, 2, 3, 493));
        due(1439, way.ask(x, 3, 3, 3, 1439));
        fails(ELEMENT, () -> way.ask(x, 0, 3, 3, 480));
        fails(ELEMENT, () -> way.ask(x, 2, 0, 3, 480));
        fails(ELEMENT, () -> way.ask(x, 0, 2, 27, 481));
        fails(INDEX, () -> way.ask(x, 4, 0, 28, 0));
        fails(INDEX, () -> way.ask(x, 0, 4, 28, 0));
        fails(INDEX, () -> way.ask(x, -1, 0, 0, 0));
        fails(INDEX, () -> way.ask(x, 0, -1, 0, 0));
        fails(ARGUMENT, () -> way.ask(x, 0, 3, 28, 0));
        fails(ARGUMENT, () -> way.ask(x, 0, 3, -1, 0));
        fails(ARGUMENT, () -> way.ask(x, 0, 3, 0, 1440));
        fails(ARGUMENT, () -> way.ask(x, 0, 3, 0, -1));
        walksAndChanges(way);
        daysAndMidnight(way);
        for (int at = 0; at < 12; at++) {
            changeAt(way, 12, at);
        }
    }

    private static void walksAndChanges(Way way) {
        Lastbus x = daily(30, 30, 30, 30, 30);
        x.walk(1, 2, 4);
        x.walk(3, 4, 5);
        ride(x, 0, 100, 1, 110);
        ride(x, 2, 114, 3, 120);
        ride(x, 1, 139, 4, 141);
        // Behind a walk no minutes for changing are needed, and none to get off and walk.
        due(120, way.ask(x, 0, 3, 5, 100));
        due(125, way.ask(x, 0, 4, 5, 100));
        due(120, way.ask(x, 1, 3, 5, 110));
        due(141 + 5, way.ask(x, 1, 3, 5, 111));
        due(141 + 5, way.ask(x, 1, 3, 5, 139));
        due(120 + 1440, way.ask(x, 1, 3, 5, 140));
        due(118, way.ask(x, 2, 1, 5, 114));
        x.walk(1, 2, 5);
        due(120 + 1440, way.ask(x, 0, 3, 5, 100));
        // No walk leads back to the stop itself to evade the minutes for changing.
        due(120 + 1440 + 5, way.ask(x, 0, 4, 5, 100));
        x.setChange(1, 29);
        due(141, way.ask(x, 0, 4, 5, 100));
        x.walk(0, 4, 40);
        due(140, way.ask(x, 0, 4, 5, 100));
        due(110 + 1440, way.ask(x, 0, 1, 5, 101));
    }

    private static void daysAndMidnight(Way way) {
        Lastbus x = stops(0, 0, 0);
        x.service();
        x.putDay(0, 5, true);
        ride(x, 0, 1430, 1, 1440, 2, 1450);
        due(1440, way.ask(x, 0, 1, 5, 1430));
        due(10, way.ask(x, 1, 2, 6, 0));
        fails(ELEMENT, () -> way.ask(x, 0, 1, 6, 0));
        fails(ELEMENT, () -> way.ask(x, 1, 2, 6, 1));
        due(2890, way.ask(x, 1, 2, 4, 1439));
        fails(ELEMENT, () -> way.ask(x, 1, 2, 3, 0));
        fails(ELEMENT, () -> way.ask(x, 1, 2, 7, 0));
        late(x, 5, 0, 0, 15);
        due(15, way.ask(x, 0, 1, 6, 5));
        due(25, way.ask(x, 0, 2, 6, 0));
        late(x, 5, 0, 1, 15);
        due(25, way.ask(x, 1, 2, 6, 15));
        fails(ELEMENT, () -> way.ask(x, 0, 1, 6, 0));
        late(x, 6, 0, 1, 15);
        due(2890 + 15, way.ask(x, 1, 2, 4, 0));
        x.putDay(0, 0, true);
        x.putDay(0, 27, true);
        due(1440, way.ask(x, 0, 1, 0, 0));
        due(1440, way.ask(x, 0, 1, 27, 1430));
    }

    private static void earliest() {
        likeEarliest((x, from, to, day, minute) -> x.earliest(from, to, day, minute));
    }

    private static void earliestByQueue() {
        likeEarliest((x, from, to, day, minute) -> x.earliestByQueue(from, to, day, minute));
    }

    private static void earliestByRounds() {
        likeEarliest((x, from, to, day, minute) -> x.earliestByRounds(from, to, day, minute));
    }

    private static void wall() {
        Lastbus x = daily(0, 0, 0, 0);
        ride(x, 0, 480, 1, 490, 2, 500);
        x.walk(0, 3, 9);
        due(0, x.wall(0, 3, 470, 470));
        due(1, x.wall(0, 3, 470, 471));
        due(1, x.wall(0, 3, 470, 479));
        due(9, x.wall(0, 3, 470, 480));
        due(9, x.wall(0, 3, 470, 490));
        due(11, x.wall(0, 3, 470, 491));
        due(15, x.wall(0, 3, 470, 501));
        due(15, x.wall(0, 3, 481, 4319));
        due(4, x.wall(2, 3, 0, 4319));
        due(0, x.wall(0, 3, 470, 0));
        due(15, x.wall(0, 3, 1439, 4319));
        fails(INDEX, () -> x.wall(4, 28, 0, 0));
        fails(INDEX, () -> x.wall(-1, 0, 0, 0));
        fails(ARGUMENT, () -> x.wall(0, 28, 0, 0));
        fails(ARGUMENT, () -> x.wall(0, -1, 0, 0));
        fails(ARGUMENT, () -> x.wall(0, 0, 1440, 0));
        fails(ARGUMENT, () -> x.wall(0, 0, -1, 0));
        fails(ARGUMENT, () -> x.wall(0, 0, 0, 4320));
        fails(ARGUMENT, () -> x.wall(0, 0, 0, -1));
    }

    private static void last() {
        Lastbus x = daily(3, 4, 2, 0);
        ride(x, 0, 480, 1, 490, 2, 510);
        ride(x, 1, 494, 2, 497);
        ride(x, 0, 485, 2, 505);
        x.walk(0, 3, 6);
        due(480, x.last(0, 2, 3, 497));
        due(480, x.last(0, 2, 3, 504));
        due(485, x.last(0, 2, 3, 505));
        due(485, x.last(0, 2, 3, 1439));
        due(485 + 1440, x.last(0, 2, 3, 505 + 1440));
        due(479, x.last(3, 2, 3, 505));
        due(499, x.last(0, 3, 3, 505));
        due(0, x.last(0, 3, 3, 6));
        fails(ELEMENT, () -> x.last(0, 3, 3, 5));
        due(505, x.last(2, 2, 3, 505));
        due(0, x.last(2, 2, 3, 0));
        due(2879, x.last(2, 2, 3, 2879));
        fails(ELEMENT, () -> x.last(0, 2, 3, 496));
        fails(ELEMENT, () -> x.last(2, 0, 3, 2879));
        x.setChange(1, 5);
        fails(ELEMENT, () -> x.last(0, 2, 3, 504));
        late(x, 3, 1, 0, 1);
        due(480, x.last(0, 2, 3, 504));
        fails(INDEX, () -> x.last(4, 0, 28, 0));
        fails(INDEX, () -> x.last(0, -1, 28, 0));
        fails(ARGUMENT, () -> x.last(0, 2, 28, 0));
        fails(ARGUMENT, () -> x.last(0, 2, 0, 2880));
        fails(ARGUMENT, () -> x.last(0, 2, 0, -1));
        Lastbus y = daily(0, 0, 0);
        y.walk(0, 1, 8);
        ride(y, 1, 7, 2, 20);
        fails(ELEMENT, () -> y.last(0, 2, 0, 100));
        due(1439, y.last(0, 2, 0, 1460));
        y.shift(0, 1);
        due(0, y.last(0, 2, 0, 100));
    }

    private static void keptRide(Lastbus x, int index, int trip, int day, int on, int off) {
        due(trip, x.ride(index, 't'));
        due(day, x.ride(index, 'd'));
        due(on, x.ride(index, 'o'));
        due(off, x.ride(index, 'f'));
    }

    private static void chain() {
        Lastbus x = daily(3, 4, 2, 0);
        ride(x, 0, 480, 1, 490, 2, 500);
        ride(x, 1, 494, 2, 497);
        due(2, x.chain(0, 2, 3, 470));
        keptRide(x, 0, 0, 0, 0, 1);
        keptRide(x, 1, 1, 0, 0, 1);
        x.setChange(1, 5);
        due(1, x.chain(0, 2, 3, 470));
        keptRide(x, 0, 0, 0, 0, 2);
        due(0, x.chain(2, 2, 3, 470));
        fails(ELEMENT, () -> x.ride(0, 't'));
        due(1, x.chain(1, 2, 3, 495));
        keptRide(x, 0, 1, 1, 0, 1);
        fails(ELEMENT, () -> x.chain(2, 1, 3, 470));
        fails(INDEX, () -> x.chain(4, 1, 28, 470));
        fails(ARGUMENT, () -> x.chain(0, 1, 28, 470));
        fails(ARGUMENT, () -> x.chain(0, 1, 3, 1440));
        keptRide(x, 0, 1, 1, 0, 1);
        chainOfLikes();
        longChain();
    }

    /** Of ways of like arrival: the fewest rides, the first run, the first call to get off, the last to get on. */
    private static void chainOfLikes() {
        Lastbus x = daily(0, 0, 0, 0);
        ride(x, 1, 20, 2, 40);
        ride(x, 0, 5, 1, 20);
        ride(x, 0, 10, 2, 40);
        ride(x, 0, 12, 2, 40);
        due(1, x.chain(0, 2, 3, 0));
        keptRide(x, 0, 2, 0, 0, 1);
        due(1, x.chain(0, 2, 3, 11));
        keptRide(x, 0, 3, 0, 0, 1);
        Lastbus y = daily(0, 0, 0, 0);
        ride(y, 0, 5, 1, 8, 0, 10, 2, 20, 3, 21, 2, 22);
        y.walk(2, 3, 9);
        due(1, y.chain(0, 2, 3, 0));
        keptRide(y, 0, 0, 0, 2, 3);
        due(1, y.chain(0, 3, 3, 0));
        keptRide(y, 0, 0, 0, 2, 4);
        due(1, y.chain(1, 0, 3, 0));
        keptRide(y, 0, 0, 0, 1, 2);
        Lastbus z = daily(0, 0, 0);
        ride(z, 0, 1440 + 100, 1, 1440 + 110);
        ride(z, 0, 100, 1, 110);
        due(1, z.chain(0, 1, 3, 0));
        keptRide(z, 0, 0, -1, 0, 1);
        due(1, z.chain(0, 1, 0, 0));
        keptRide(z, 0, 1, 0, 0, 1);
        z.walk(0, 1, 10);
        due(0, z.chain(0, 1, 3, 100));
        z.walk(0, 1, 11);
        due(1, z.chain(0, 1, 3, 100));
        // A first call at which one comes in time by walking on from there.
        Lastbus w = daily(0, 0, 0);
        ride(w, 0, 10, 1, 20, 2, 30);
        w.walk(1, 2, 10);
        due(1, w.chain(0, 2, 3, 0));
        keptRide(w, 0, 0, 0, 0, 1);
        w.walk(1, 2, 11);
        due(1, w.chain(0, 2, 3, 0));
        keptRide(w, 0, 0, 0, 0, 2);
    }

    private static void longChain() {
        Lastbus x = daily(1, 1, 1, 1, 1, 1, 1, 1, 1, 1, 1, 1);
        for (int stop = 0; stop < 11; stop++) {
            ride(x, stop, 100 + 10 * stop, stop + 1, 109 + 10 * stop);
        }
        due(11, x.chain(0, 11, 3, 100));
        for (int index = 0; index < 11; index++) {
            keptRide(x, index, index, 0, 0, 1);
        }
        fails(ELEMENT, () -> x.ride(11, 't'));
        due(1, x.choices(0, 11, 3, 100));
        due(55209, x.choice(0, 11, 3, 100, 0));
        due(209, x.earliestByRounds(0, 11, 3, 100));
    }

    private static void rideOfChain() {
        Lastbus x = daily(0, 0, 0);
        fails(ARGUMENT, () -> x.ride(0, 'x'));
        fails(ELEMENT, () -> x.ride(0, 't'));
        ride(x, 0, 10, 1, 20);
        x.trip(0, 0, 30);
        ride(x, 0, 1440, 1, 1445, 2, 1450);
        due(1, x.chain(0, 2, 3, 0));
        keptRide(x, 0, 2, -1, 0, 2);
        fails(ELEMENT, () -> x.ride(1, 't'));
        fails(ELEMENT, () -> x.ride(-1, 'f'));
        fails(ELEMENT, () -> x.ride(GREATEST, 'o'));
        fails(ARGUMENT, () -> x.ride(5, 'T'));
        fails(ARGUMENT, () -> x.ride(0, (char) 0));
        // What is kept stays, whatever else is asked or told.
        x.choices(0, 1, 3, 5);
        x.isSound(3);
        x.shift(2, 60);
        fails(ELEMENT, () -> x.chain(2, 0, 3, 0));
        keptRide(x, 0, 2, -1, 0, 2);
        due(1, x.chain(0, 2, 2, 40));
        keptRide(x, 0, 2, -1, 0, 2);
        due(1, x.chain(0, 2, 2, 100));
        keptRide(x, 0, 2, 0, 0, 2);
        due(1, x.chain(0, 2, 0, 0));
        keptRide(x, 0, 2, 0, 0, 2);
    }

    private static void onBoard() {
        Lastbus x = daily(0, 5, 0, 0);
        x.service();
        x.putDay(1, 4, true);
        ride(x, 0, 100, 1, 110, 2, 120);
        ride(x, 1, 115, 3, 130);
        ride(x, 1, 100, 3, 101);
        x.trip(1, 0, 50);
        x.call(3, 1, 60, 60);
        due(110, x.onBoard(3, 0, 0, 1));
        due(120, x.onBoard(3, 0, 0, 2));
        due(120, x.onBoard(3, 0, 1, 2));
        due(130, x.onBoard(3, 0, 0, 3));
        x.setChange(1, 6);
        due(101 + 1440, x.onBoard(3, 0, 0, 3));
        fails(ELEMENT, () -> x.onBoard(3, 0, 1, 1));
        fails(ELEMENT, () -> x.onBoard(3, 0, 0, 0));
        x.walk(2, 0, 7);
        due(127, x.onBoard(3, 0, 1, 0));
        late(x, 3, 0, 1, 4);
        due(110, x.onBoard(3, 0, 0, 1));
        due(131, x.onBoard(3, 0, 0, 0));
        due(60, x.onBoard(4, 3, 0, 1));
        due(110, x.onBoard(0, 0, 0, 1));
        due(101 + 1440, x.onBoard(0, 0, 0, 3));
        fails(ELEMENT, () -> x.onBoard(27, 0, 0, 3));
        fails(SUPPORT, () -> x.onBoard(3, 3, 0, 1));
        fails(SUPPORT, () -> x.onBoard(3, 0, 2, 1));
        fails(INDEX, () -> x.onBoard(28, 4, 0, 1));
        fails(INDEX, () -> x.onBoard(28, 0, 3, 1));
        fails(INDEX, () -> x.onBoard(28, 0, 0, 4));
        fails(INDEX, () -> x.onBoard(3, 0, 2, -1));
        fails(ARGUMENT, () -> x.onBoard(28, 0, 2, 1));
        fails(ARGUMENT, () -> x.onBoard(-1, 0, 0, 1));
    }

    // 34 to 38: pairs and choices

    private static Lastbus paired() {
        Lastbus x = daily(0, 0, 0);
        x.putDay(0, 4, false);
        ride(x, 0, 100, 1, 130);
        ride(x, 0, 110, 1, 125);
        ride(x, 0, 110, 1, 140);
        ride(x, 0, 120, 1, 150);
        ride(x, 0, 121, 1, 150);
        ride(x, 0, 90, 2, 95);
        return x;
    }

    private static void pairs() {
        Lastbus x = paired();
        due(2, x.pairs(0, 1, 3));
        due(4, x.pairs(0, 1, 2));
        due(0, x.pairs(1, 0, 3));
        due(0, x.pairs(2, 1, 3));
        due(2, x.pairs(0, 1, 4));
        fails(INDEX, () -> x.pairs(3, 3, 28));
        fails(INDEX, () -> x.pairs(3, 0, 3));
        fails(INDEX, () -> x.pairs(-1, 0, 3));
        fails(INDEX, () -> x.pairs(0, 3, 3));
        fails(INDEX, () -> x.pairs(0, -1, 3));
        fails(ARGUMENT, () -> x.pairs(0, 0, 3));
        fails(ARGUMENT, () -> x.pairs(0, 1, 28));
        fails(ARGUMENT, () -> x.pairs(0, 1, -1));
        // Ways without rides are no pairs, and beat none.
        x.walk(0, 1, 1);
        due(2, x.pairs(0, 1, 3));
    }

    private static void pair() {
        Lastbus x = paired();
        due(110, x.pair(0, 1, 2, 0, false));
        due(125, x.pair(0, 1, 2, 0, true));
        due(121, x.pair(0, 1, 2, 1, false));
        due(150, x.pair(0, 1, 2, 1, true));
        due(110 + 1440, x.pair(0, 1, 2, 2, false));
        due(150 + 1440, x.pair(0, 1, 2, 3, true));
        fails(ELEMENT, () -> x.pair(0, 1, 3, 2, true));
        fails(ELEMENT, () -> x.pair(0, 1, 3, -1, true));
        fails(INDEX, () -> x.pair(3, 3, 28, 9, true));
        fails(ARGUMENT, () -> x.pair(1, 1, 3, 9, true));
        fails(ARGUMENT, () -> x.pair(0, 1, 28, 9, true));
        x.walk(2, 0, 60);
        due(50, x.pair(2, 1, 3, 0, false));
        due(125, x.pair(2, 1, 3, 0, true));
        // A walk ahead may not begin below 0.
        Lastbus y = daily(0, 0, 0);
        y.walk(0, 1, 8);
        ride(y, 1, 7, 2, 20);
        due(1, y.pairs(0, 2, 1));
        due(1439, y.pair(0, 2, 1, 0, false));
        y.shift(0, 1);
        due(2, y.pairs(0, 2, 1));
        due(0, y.pair(0, 2, 1, 0, false));
        due(21, y.pair(0, 2, 1, 0, true));
        // Behind the ride one can walk to the end, also by other stops.
        y.walk(0, 2, 2);
        due(0, y.pair(0, 1, 1, 0, false));
        due(31, y.pair(0, 1, 1, 0, true));
    }

    private static void byPairs() {
        likeEarliest((x, from, to, day, minute) -> x.byPairs(from, to, day, minute));
        Lastbus x = paired();
        due(125, x.byPairs(0, 1, 3, 110));
        due(150, x.byPairs(0, 1, 3, 111));
        fails(ELEMENT, () -> x.byPairs(0, 1, 3, 122));
        due(125 + 1440, x.byPairs(0, 1, 2, 122));
        x.walk(0, 1, 40);
        due(125, x.byPairs(0, 1, 3, 100));
        due(125, x.byPairs(0, 1, 3, 85));
        due(124, x.byPairs(0, 1, 3, 84));
        due(162, x.byPairs(0, 1, 3, 122));
        due(7, x.byPairs(2, 2, 3, 7));
    }

    private static Lastbus chosen() {
        Lastbus x = daily(0, 0, 0);
        x.walk(0, 2, 60);
        ride(x, 0, 100, 2, 150);
        ride(x, 0, 100, 1, 110);
        ride(x, 1, 110, 2, 120);
        ride(x, 1, 111, 2, 120);
        return x;
    }

    private static void choices() {
        Lastbus x = chosen();
        due(3, x.choices(0, 2, 3, 100));
        due(2, x.choices(0, 2, 3, 80));
        due(1, x.choices(0, 2, 3, 40));
        due(1, x.choices(0, 2, 3, 101));
        due(1, x.choices(1, 1, 3, 101));
        x.walk(0, 2, 0);
        due(2, x.choices(0, 2, 3, 100));
        due(0, x.choices(2, 0, 3, 100));
        fails(INDEX, () -> x.choices(3, 0, 28, 0));
        fails(INDEX, () -> x.choices(0, 3, 28, 0));
        fails(ARGUMENT, () -> x.choices(0, 0, 28, 0));
        fails(ARGUMENT, () -> x.choices(0, 0, 0, 1440));
    }

    private static void choice() {
        Lastbus x = chosen();
        due(160, x.choice(0, 2, 3, 100, 0));
        due(5150, x.choice(0, 2, 3, 100, 1));
        due(10120, x.choice(0, 2, 3, 100, 2));
        fails(ELEMENT, () -> x.choice(0, 2, 3, 100, 3));
        fails(ELEMENT, () -> x.choice(0, 2, 3, 100, -1));
        fails(ELEMENT, () -> x.choice(0, 2, 3, 100, LEAST));
        due(77, x.choice(1, 1, 3, 77, 0));
        fails(INDEX, () -> x.choice(3, 0, 28, 0, 0));
        fails(ARGUMENT, () -> x.choice(0, 2, 28, 0, 9));
        fails(ARGUMENT, () -> x.choice(0, 2, 3, -1, 9));
        fails(ELEMENT, () -> x.choice(2, 1, 27, 100, 0));
    }

    // 39 to 43: changes and waiting

    private static void holds() {
        Lastbus x = daily(0, 4, 0, 9);
        x.service();
        ride(x, 0, 100, 1, 110);
        ride(x, 1, 114, 2, 120);
        ride(x, 3, 117, 2, 120);
        due(true, x.holds(3, 0, 1, 1, 0));
        x.setChange(1, 5);
        due(false, x.holds(3, 0, 1, 1, 0));
        late(x, 3, 1, 0, 1);
        due(true, x.holds(3, 0, 1, 1, 0));
        due(false, x.holds(4, 0, 1, 1, 0));
        late(x, 3, 0, 1, 60);
        due(true, x.holds(3, 0, 1, 1, 0));
        late(x, 3, 0, 0, 1);
        due(false, x.holds(3, 0, 1, 1, 0));
        fails(ELEMENT, () -> x.holds(4, 0, 1, 2, 0));
        x.walk(1, 2, 4);
        x.walk(2, 3, 3);
        due(true, x.holds(4, 0, 1, 2, 0));
        due(false, x.holds(3, 0, 1, 2, 0));
        x.trip(1, 1, 200);
        x.call(3, 2, 210, 210);
        fails(SUPPORT, () -> x.holds(3, 0, 1, 3, 0));
        fails(SUPPORT, () -> x.holds(3, 3, 1, 1, 0));
        fails(ARGUMENT, () -> x.holds(3, 0, 0, 1, 0));
        fails(ARGUMENT, () -> x.holds(3, 0, 1, 1, 1));
        fails(ARGUMENT, () -> x.holds(3, 0, 1, 0, 0));
        fails(ARGUMENT, () -> x.holds(28, 0, 1, 3, 0));
        fails(INDEX, () -> x.holds(28, 0, 2, 1, 0));
        fails(INDEX, () -> x.holds(3, 0, 1, 1, 2));
        fails(INDEX, () -> x.holds(3, 4, 1, 1, 0));
        fails(INDEX, () -> x.holds(3, 0, 1, -1, 0));
    }

    private static void wish() {
        Lastbus x = daily(0, 0, 0);
        ride(x, 0, 100, 1, 110);
        ride(x, 1, 114, 2, 120);
        ride(x, 0, 114, 2, 120);
        fails(ARGUMENT, () -> x.wish(0, 1, 1, 0, 0));
        fails(ARGUMENT, () -> x.wish(0, 1, 1, 0, 100));
        fails(ARGUMENT, () -> x.wish(0, 0, 1, 0, 5));
        fails(ARGUMENT, () -> x.wish(0, 1, 1, 1, 5));
        fails(ARGUMENT, () -> x.wish(0, 1, 0, 0, 5));
        fails(ARGUMENT, () -> x.wish(0, 1, 2, 0, 0));
        fails(SUPPORT, () -> x.wish(0, 1, 2, 0, 5));
        fails(INDEX, () -> x.wish(3, 1, 1, 0, 5));
        fails(INDEX, () -> x.wish(0, 2, 1, 0, 0));
        fails(INDEX, () -> x.wish(0, 1, 1, 2, 0));
        fails(INDEX, () -> x.wish(0, 1, -1, 0, 0));
        due(0, x.wish(0, 1, 1, 0, 1));
        for (int i = 1; i < 6; i++) {
            due(i, x.wish(0, 1, 1, 0, 99));
        }
        fails(STATE, () -> x.wish(0, 1, 1, 0, 5));
        fails(SUPPORT, () -> x.wish(0, 1, 2, 0, 5));
        due(6, x.dropWishes());
        due(0, x.wish(0, 1, 1, 0, 5));
    }

    private static void dropWishes() {
        Lastbus x = daily(0, 9, 0);
        due(0, x.dropWishes());
        ride(x, 0, 100, 1, 110);
        ride(x, 1, 114, 2, 120);
        x.wish(0, 1, 1, 0, 1);
        x.wish(0, 1, 1, 0, 2);
        due(180, x.waitCost(3, 0));
        due(2, x.dropWishes());
        due(0, x.dropWishes());
        due(0, x.waitCost(3, 0));
        fails(ARGUMENT, () -> x.waitCost(3, 1));
    }

    private static void waitCost() {
        Lastbus x = daily(0, 5, 0, 0);
        ride(x, 0, 100, 1, 110);
        ride(x, 1, 112, 2, 120, 3, 130);
        ride(x, 2, 120, 3, 121);
        x.wish(0, 1, 1, 0, 2);
        x.wish(1, 1, 2, 0, 7);
        due(120, x.waitCost(3, 0));
        due(3 + 420, x.waitCost(3, 1));
        due(120, x.waitCost(3, 2));
        due(6, x.waitCost(3, 3));
        late(x, 3, 0, 0, 4);
        due(4 + 7 + 7, x.waitCost(3, 3));
        late(x, 3, 1, 1, 9);
        due(4 + 9 + 7, x.waitCost(3, 3));
        late(x, 3, 1, 0, 6);
        due(4 + 6 + 120 + 420, x.waitCost(3, 0));
        late(x, 3, 1, 0, 7);
        due(4 + 7 + 420, x.waitCost(3, 0));
        x.onTime();
        // A trip of one call, and one that does not run, cost nothing.
        x.trip(0, 0, 50);
        late(x, 3, 3, 0, 90);
        due(6, x.waitCost(3, 3));
        x.service();
        x.trip(1, 2, 50);
        x.call(4, 0, 60, 60);
        late(x, 3, 4, 0, 90);
        due(6, x.waitCost(3, 3));
        // A wish of trips that do not both run counts for nothing, held or not.
        x.wish(1, 1, 4, 0, 99);
        due(6, x.waitCost(3, 3));
        due(6, x.waitCost(3, 7));
        x.putDay(1, 3, true);
        due(6 + 90, x.waitCost(3, 3));
        x.late(3, 4, 0, 70);
        due(6 + 70 + 60 * 99, x.waitCost(3, 3));
        due(6 + 73, x.waitCost(3, 7));
        fails(ARGUMENT, () -> x.waitCost(28, 0));
        fails(ARGUMENT, () -> x.waitCost(-1, 0));
        fails(ARGUMENT, () -> x.waitCost(3, 8));
        fails(ARGUMENT, () -> x.waitCost(3, -1));
        fails(ARGUMENT, () -> x.waitCost(3, LEAST));
        waitLimits();
    }

    private static void waitLimits() {
        Lastbus x = daily(0, 0, 0);
        ride(x, 0, 100, 1, 350);
        ride(x, 1, 110, 2, 120, 0, 130);
        x.wish(0, 1, 1, 0, 1);
        due(240, x.waitCost(3, 1));
        due(60, x.waitCost(3, 0));
        late(x, 3, 0, 0, 1);
        fails(ELEMENT, () -> x.waitCost(3, 1));
        late(x, 3, 0, 1, 50);
        due(240, x.waitCost(3, 1));
        // Trips that wait for one another in a ring: it can be if the ring does not grow.
        Lastbus z = daily(2, 0, 0);
        ride(z, 1, 100, 0, 110, 2, 130);
        ride(z, 0, 90, 1, 95, 0, 100, 1, 120);
        z.wish(0, 1, 1, 2, 1);
        due(12, z.waitCost(3, 1));
        z.wish(1, 1, 0, 0, 1);
        due(12, z.waitCost(3, 3));
        z.setChange(1, 5);
        due(12, z.waitCost(3, 3));
        z.setChange(1, 6);
        due(1 + 13, z.waitCost(3, 3));
        ringThatGrows();
        allWishes();
    }

    /** Six wishes one behind the other, of trips with eight calls, told from the last one. */
    private static void allWishes() {
        Lastbus x = daily(3, 3);
        for (int trip = 0; trip < 7; trip++) {
            x.trip(0, 0, 100 + 10 * trip);
            for (int call = 1; call < 8; call++) {
                x.call(trip, call % 2, 100 + 10 * trip + call, 100 + 10 * trip + call);
            }
        }
        for (int trip = 5; trip >= 0; trip--) {
            x.wish(trip, 7, trip + 1, 1, 1 + trip);
        }
        due(0, x.waitCost(3, 0));
        due(0, x.bestWaits(3));
        for (int stop = 0; stop < 2; stop++) {
            x.setChange(stop, 9);
        }
        due(60 * 21, x.waitCost(3, 0));
        due(5 + 10 + 15 + 20 + 25 + 30, x.waitCost(3, 63));
        due(63, x.bestWaits(3));
        late(x, 3, 0, 6, 20);
        due(20 + 25 + 30 + 35 + 40 + 45 + 50, x.waitCost(3, 63));
        due(20 + 60 + 5 + 10 + 15 + 20 + 25, x.waitCost(3, 31));
        due(31, x.bestWaits(3));
    }

    private static void ringThatGrows() {
        Lastbus x = daily(0, 0, 0, 0);
        ride(x, 2, 100, 0, 110, 1, 120);
        ride(x, 3, 100, 1, 110, 0, 120);
        x.wish(0, 2, 1, 1, 1);
        x.wish(1, 2, 0, 1, 1);
        due(10 + 60, x.waitCost(3, 1));
        due(10 + 60, x.waitCost(3, 2));
        fails(ELEMENT, () -> x.waitCost(3, 3));
        due(120, x.waitCost(3, 0));
    }

    private static void bestWaits() {
        Lastbus x = daily(0, 5, 0, 0);
        due(0, x.bestWaits(3));
        ride(x, 0, 100, 1, 110);
        ride(x, 1, 112, 2, 120, 3, 130);
        ride(x, 2, 120, 3, 121);
        x.wish(0, 1, 1, 0, 2);
        x.wish(1, 1, 2, 0, 7);
        due(3, x.bestWaits(3));
        late(x, 3, 0, 0, 120);
        due(0, x.bestWaits(3));
        late(x, 3, 0, 0, 117);
        due(0, x.bestWaits(3));
        late(x, 3, 0, 0, 56);
        due(3, x.bestWaits(3));
        due(56 + 59 + 59, x.waitCost(3, 3));
        late(x, 3, 0, 0, 57);
        due(0, x.bestWaits(3));
        late(x, 3, 0, 0, 0);
        // Wishes that need no waiting, or do not count, are not in the least mask.
        ride(x, 1, 500, 2, 510);
        x.service();
        x.trip(1, 1, 100);
        x.call(4, 2, 101, 101);
        due(2, x.wish(0, 1, 3, 0, 9));
        due(3, x.wish(0, 1, 4, 0, 9));
        due(3, x.bestWaits(3));
        x.putDay(1, 3, true);
        due(11, x.bestWaits(3));
        // Of like costs the least mask: one traveller missed is as dear as an hour of waiting.
        Lastbus y = daily(0, 0);
        ride(y, 0, 100, 1, 160);
        ride(y, 1, 100, 0, 200);
        y.wish(0, 1, 1, 0, 1);
        due(60, y.waitCost(3, 0));
        due(60, y.waitCost(3, 1));
        due(0, y.bestWaits(3));
        y.shift(1, 1);
        due(1, y.bestWaits(3));
        fails(ARGUMENT, () -> x.bestWaits(28));
        fails(ARGUMENT, () -> x.bestWaits(-1));
    }

    // 44 to 49: cuts, vehicles, shifts

    private static void lost() {
        Lastbus x = daily(0, 0, 0, 0);
        ride(x, 0, 100, 1, 110);
        ride(x, 1, 120, 2, 130);
        due(1, x.lost(1, 3));
        due(0, x.lost(0, 3));
        due(0, x.lost(3, 3));
        // Runs pass a stop that is cut.
        ride(x, 0, 100, 1, 110, 2, 120);
        due(0, x.lost(1, 3));
        x.walk(2, 3, 5);
        due(0, x.lost(1, 3));
        due(2, x.lost(2, 3));
        due(0, x.lost(3, 3));
        // Told walks to it are not there, also not on the way.
        Lastbus y = stops(0, 0, 0, 0);
        y.walk(0, 1, 5);
        y.walk(1, 2, 5);
        due(2, y.lost(1, 0));
        y.walk(0, 2, 60);
        due(0, y.lost(1, 0));
        fails(INDEX, () -> x.lost(4, 28));
        fails(INDEX, () -> x.lost(-1, 0));
        fails(ARGUMENT, () -> x.lost(0, 28));
        fails(ARGUMENT, () -> x.lost(0, -1));
        due(10, y.walkTime(0, 2));
    }

    private static void bridges() {
        Lastbus x = daily(0, 0, 0, 0);
        ride(x, 0, 100, 1, 110);
        ride(x, 1, 120, 2, 130);
        ride(x, 2, 140, 3, 150);
        due(6, x.bridges(3));
        ride(x, 0, 100, 1, 110, 2, 120);
        due(4, x.bridges(3));
        ride(x, 1, 100, 3, 110);
        ride(x, 0, 90, 3, 110);
        due(0, x.bridges(3));
        fails(ARGUMENT, () -> x.bridges(28));
        fails(ARGUMENT, () -> x.bridges(-1));
        Lastbus y = stops(0, 0, 0);
        y.walk(0, 1, 5);
        y.walk(0, 2, 5);
        due(1, y.bridges(0));
        due(10, y.walkTime(1, 2));
    }

    private interface Count {
        int ask(Lastbus x, int day);
    }

    private static void likeVehicles(Count count) {
        Lastbus x = daily(0, 0, 0);
        due(0, count.ask(x, 3));
        ride(x, 0, 100, 1, 110);
        due(1, count.ask(x, 3));
        ride(x, 1, 115, 0, 120);
        due(1, count.ask(x, 3));
        x.shift(1, -1);
        due(2, count.ask(x, 3));
        x.shift(1, 1);
        late(x, 3, 0, 0, 50);
        due(1, count.ask(x, 3));
        ride(x, 1, 115, 2, 130);
        due(2, count.ask(x, 3));
        ride(x, 2, 135, 1, 140);
        due(2, count.ask(x, 3));
        // A trip of one call begins and ends at it.
        x.trip(0, 1, 145);
        due(2, count.ask(x, 3));
        x.trip(0, 1, 150);
        due(2, count.ask(x, 3));
        x.trip(0, 1, 154);
        due(3, count.ask(x, 3));
        x.service();
        x.trip(1, 2, 500);
        due(3, count.ask(x, 3));
        x.putDay(1, 3, true);
        due(4, count.ask(x, 3));
        fails(ARGUMENT, () -> count.ask(x, 28));
        fails(ARGUMENT, () -> count.ask(x, -1));
        // The first trip may not take from the second one what only that one can take.
        Lastbus y = daily(0, 0);
        ride(y, 0, 0, 1, 10);
        ride(y, 0, 0, 1, 20);
        ride(y, 1, 30, 0, 40);
        ride(y, 1, 15, 0, 40);
        due(2, count.ask(y, 0));
        // A trip can be put behind one that was added after it.
        y.trip(0, 0, 100);
        ride(y, 1, 45, 0, 50);
        due(3, count.ask(y, 0));
        Lastbus w = daily(0, 0);
        ride(w, 1, 100, 0, 110);
        ride(w, 0, 50, 1, 60);
        due(1, count.ask(w, 0));
        w.shift(0, -36);
        due(2, count.ask(w, 0));
        // The arrival at the end counts, not the departure there.
        Lastbus z = daily(0, 0);
        z.trip(0, 0, 100);
        z.call(0, 1, 110, 300);
        ride(z, 1, 115, 0, 120);
        due(1, count.ask(z, 0));
    }

    private static void vehicles() {
        likeVehicles((x, day) -> x.vehicles(day));
    }

    private static void vehiclesByMatching() {
        likeVehicles((x, day) -> x.vehiclesByMatching(day));
    }

    /** The trip 0 brings to the stop 1, from where the trip 1 goes on to the stop 2. */
    private static Lastbus shifted() {
        Lastbus x = stops(0, 0, 0);
        x.service();
        x.putDay(0, 3, true);
        ride(x, 0, 100, 1, 110);
        ride(x, 1, 105, 2, 120);
        return x;
    }

    private static void gains() {
        Lastbus x = shifted();
        due(0, x.gains(1, 0, 3, 0));
        due(1, x.gains(1, 5, 3, 0));
        due(0, x.gains(1, 4, 3, 0));
        due(1, x.gains(1, -5, 3, 0));
        due(0, x.gains(1, -5, 3, 101));
        due(1, x.gains(1, 5, 3, 106));
        due(2, x.gains(0, -5, 3, 0));
        due(105, x.timeAt(1, 0, false));
        due(0, x.gains(0, -5, 5, 0));
        due(0, x.gains(0, -5, 4, 0));
        due(2, x.gains(0, -5, 2, 0));
        fails(INDEX, () -> x.gains(2, 61, 28, 0));
        fails(INDEX, () -> x.gains(-1, 0, 0, 0));
        fails(ARGUMENT, () -> x.gains(0, 61, 3, 0));
        fails(ARGUMENT, () -> x.gains(0, -61, 3, 0));
        fails(ARGUMENT, () -> x.gains(0, 0, 28, 0));
        fails(ARGUMENT, () -> x.gains(0, 0, 3, 1440));
        fails(ARGUMENT, () -> x.gains(0, 0, 3, -1));
        x.shift(0, -60);
        fails(ARGUMENT, () -> x.gains(0, -41, 3, 0));
        due(1, x.gains(0, -40, 3, 0));
        due(0, x.gains(0, -40, 3, 1439));
        ride(x, 0, 2800, 1, 2850);
        fails(ARGUMENT, () -> x.gains(2, 30, 3, 0));
        due(0, x.gains(2, 29, 3, 0));
    }

    private static void loses() {
        Lastbus x = shifted();
        due(0, x.loses(1, 0, 3, 0));
        due(1, x.loses(1, 5, 3, 0));
        due(0, x.loses(1, -5, 3, 0));
        due(1, x.loses(1, -5, 3, 101));
        due(0, x.loses(0, -5, 3, 0));
        due(1, x.loses(0, -5, 3, 96));
        due(1, x.loses(0, 1, 3, 0));
        x.shift(1, 5);
        due(2, x.loses(0, 1, 3, 0));
        due(0, x.loses(1, -1, 3, 106));
        due(1, x.loses(1, -1, 3, 110));
        due(2, x.loses(0, -1, 3, 100));
        due(110, x.timeAt(1, 0, false));
        fails(INDEX, () -> x.loses(2, 61, 28, 0));
        fails(ARGUMENT, () -> x.loses(0, 61, 3, 0));
        fails(ARGUMENT, () -> x.loses(0, -61, 3, 0));
        fails(ARGUMENT, () -> x.loses(0, 0, 28, 0));
        fails(ARGUMENT, () -> x.loses(0, 0, 3, 1440));
        due(0, x.loses(0, 5, 3, 1439));
        due(2, x.loses(0, 5, 2, 1439));
        x.shift(0, -60);
        fails(ARGUMENT, () -> x.loses(0, -41, 3, 0));
    }

    // 50 to 53: figures

    private static void reachShare() {
        Lastbus x = new Lastbus();
        fails(ARGUMENT, () -> x.reachShare(28));
        fails(ARITHMETIC, () -> x.reachShare(0));
        x.stop(0);
        fails(ARITHMETIC, () -> x.reachShare(0));
        x.stop(0);
        due(0f, x.reachShare(0));
        x.walk(0, 1, 5);
        due(1f, x.reachShare(0));
        x.stop(0);
        due(2f / 6f, x.reachShare(0));
        x.service();
        x.putDay(0, 3, true);
        ride(x, 0, 0, 2, 10);
        due(3f / 6f, x.reachShare(3));
        due(4f / 6f, x.reachShare(2));
        x.shift(0, 5);
        due(4f / 6f, x.reachShare(3));
        due(2f / 6f, x.reachShare(4));
        fails(ARGUMENT, () -> x.reachShare(-1));
    }

    private static void meanBetween() {
        Lastbus x = daily(0, 0);
        fails(ARITHMETIC, () -> x.meanBetween());
        x.trip(0, 0, 100);
        fails(ARITHMETIC, () -> x.meanBetween());
        x.call(0, 1, 110, 150);
        due(10.0, x.meanBetween());
        x.call(0, 0, 151, 151);
        due(5.5, x.meanBetween());
        late(x, 0, 0, 0, 9);
        ride(x, 0, 1, 1, 2);
        due(4.0, x.meanBetween());
        x.service();
        x.trip(1, 0, 10);
        x.call(2, 1, 15, 15);
        due(17.0 / 4.0, x.meanBetween());
    }

    private static long sum(int... numbers) {
        long sum = 7;
        for (int number : numbers) {
            sum = 31 * sum + number;
        }
        return sum;
    }

    private static void checksum() {
        Lastbus x = stops(3, 8);
        due(sum(3, 8, 0), x.checksum());
        x.type('x');
        due(sum(3, 8, 1), x.checksum());
        x.service();
        x.putDay(0, 27, true);
        int[] due = new int[31];
        due[0] = 3;
        due[1] = 8;
        due[29] = 1;
        due[30] = 1;
        due(sum(due), x.checksum());
        x.trip(0, 1, 600);
        x.call(0, 0, 610, 615);
        int[] more = new int[38];
        int[] trip = {3, 8, 0, 1, 600, 600, 0, 610, 615};
        System.arraycopy(trip, 0, more, 0, trip.length);
        more[36] = 1;
        more[37] = 1;
        due(sum(more), x.checksum());
        x.walk(0, 1, 5);
        x.late(27, 0, 0, 5);
        due(sum(more), x.checksum());
        x.service();
        x.erase();
        int[] most = new int[66];
        System.arraycopy(more, 0, most, 0, 37);
        due(sum(most), x.checksum());
    }

    private static void isSound() {
        Lastbus x = new Lastbus();
        due(true, x.isSound(0));
        x.stop(3);
        due(true, x.isSound(0));
        Lastbus y = daily(3, 4, 2, 0);
        ride(y, 0, 480, 1, 490, 2, 500);
        ride(y, 1, 494, 2, 497, 3, 520);
        ride(y, 0, 2870, 3, 2879);
        y.walk(1, 3, 40);
        late(y, 3, 2, 0, 120);
        for (int day = 0; day < 28; day++) {
            due(true, y.isSound(day));
        }
        fails(ARGUMENT, () -> y.isSound(28));
        fails(ARGUMENT, () -> y.isSound(-1));
        fails(ARGUMENT, () -> y.isSound(LEAST));
    }

    private static void run(String name, Runnable test) {
        promise = name;
        try {
            test.run();
        } catch (RuntimeException thrown) {
            wrong++;
            System.out.println(name + " threw " + thrown + " at " + thrown.getStackTrace()[0]);
            for (StackTraceElement at : thrown.getStackTrace()) {
                if (at.getClassName().startsWith("PromiseTests")) {
                    System.out.println("  line " + at.getLineNumber());
                }
            }
        }
    }

    private static void runTables() {
        run("1 Lastbus", PromiseTests::newObject);
        run("2 stop", PromiseTests::stop);
        run("3 setChange", PromiseTests::setChange);
        run("4 walk", PromiseTests::walk);
        run("5 walkTime", PromiseTests::walkTime);
        run("6 service", PromiseTests::service);
        run("7 week", PromiseTests::week);
        run("8 putDay", PromiseTests::putDay);
        run("9 runsOn", PromiseTests::runsOn);
        run("10 nextDay", PromiseTests::nextDay);
        run("11 trip", PromiseTests::trip);
        run("12 call", PromiseTests::call);
        run("13 trips", PromiseTests::trips);
        run("14 calls", PromiseTests::calls);
        run("15 stopAt", PromiseTests::stopAt);
        run("16 timeAt", PromiseTests::timeAt);
        run("17 shift", PromiseTests::shift);
        run("18 type", PromiseTests::type);
        run("19 typeNumber", PromiseTests::typeNumber);
        run("20 erase", PromiseTests::erase);
        run("21 readRow", PromiseTests::readRow);
        run("22 faultAt", PromiseTests::faultAt);
        run("23 late", PromiseTests::late);
        run("24 lateness", PromiseTests::lateness);
        run("25 onTime", PromiseTests::onTime);
    }

    private static void runQuestions() {
        run("26 earliest", PromiseTests::earliest);
        run("27 earliestByQueue", PromiseTests::earliestByQueue);
        run("28 earliestByRounds", PromiseTests::earliestByRounds);
        run("29 wall", PromiseTests::wall);
        run("30 last", PromiseTests::last);
        run("31 chain", PromiseTests::chain);
        run("32 ride", PromiseTests::rideOfChain);
        run("33 onBoard", PromiseTests::onBoard);
        run("34 pairs", PromiseTests::pairs);
        run("35 pair", PromiseTests::pair);
        run("36 byPairs", PromiseTests::byPairs);
        run("37 choices", PromiseTests::choices);
        run("38 choice", PromiseTests::choice);
        run("39 holds", PromiseTests::holds);
        run("40 wish", PromiseTests::wish);
        run("41 dropWishes", PromiseTests::dropWishes);
        run("42 waitCost", PromiseTests::waitCost);
        run("43 bestWaits", PromiseTests::bestWaits);
        run("44 lost", PromiseTests::lost);
        run("45 bridges", PromiseTests::bridges);
        run("46 vehicles", PromiseTests::vehicles);
        run("47 vehiclesByMatching", PromiseTests::vehiclesByMatching);
        run("48 gains", PromiseTests::gains);
        run("49 loses", PromiseTests::loses);
        run("50 reachShare", PromiseTests::reachShare);
        run("51 meanBetween", PromiseTests::meanBetween);
        run("52 checksum", PromiseTests::checksum);
        run("53 isSound", PromiseTests::isSound);
    }

    public static void main(String[] args) {
        runTables();
        runQuestions();
        System.out.println("PromiseTests: " + tests + " answers, " + wrong + " wrong");
        if (wrong > 0) {
            System.exit(1);
        }
    }
}
