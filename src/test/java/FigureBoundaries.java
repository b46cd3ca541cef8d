import java.math.BigInteger;
import java.util.ArrayList;
import java.util.List;

/** Boundary cases of the figures: promises 50 to 53. */
final class FigureBoundaries extends Boundaries {
    private static final String SHARE = "Returns of how many pairs of two unlike stops, in both orders, there is a way from the "
            + "minute 0, divided by how many such pairs there are, both converted to float.";
    private static final String MEAN = "Returns the minutes from the departure of each call to the arrival at the next one of "
            + "its trip, added up, divided by how many these are, both converted to double.";
    private static final String SUM = "Returns 7 at first, then 31 times itself plus each of: the minutes for changing by stops; "
            + "for each trip the service, and for each call the stop, the arrival, that of the call 0 being its departure, and "
            + "the departure; for each service, and each day, 1 if it runs, otherwise 0; the number of typed signs; a long that "
            + "goes round.";

    FigureBoundaries(Sentences doc) {
        super(doc);
    }

    @Override
    void holdAll() {
        reachShare();
        reachShareRefused();
        meanBetween();
        checksum();
        checksumGoesRound();
        isSound();
    }

    private void reachShare() {
        hold(50, SHARE, () -> {
            Lastbus x = stops(0, 0);
            due(0f, x.reachShare(0));
            x.walk(0, 1, 60);
            due(1f, x.reachShare(27));
            x.stop(0);
            due(2f / 6f, x.reachShare(0));
        });
        hold(50, "there is a way from the minute 0", () -> {
            Lastbus x = onDay(3, 0, 0);
            ride(x, 0, 0, 1, 10);
            due(0.5f, x.reachShare(3));
            due(0.5f, x.reachShare(2));
            due(0f, x.reachShare(4));
            due(0f, x.reachShare(1));
            ride(x, 0, 1439, 1, 1500);
            due(0f, x.reachShare(4));
            x.shift(1, 1);
            due(0.5f, x.reachShare(4));
        });
        hold(50, SHARE, () -> {
            Lastbus x = onDay(3, 0, 0, 0, 0, 0, 0, 0, 0, 0, 0, 0, 0);
            ride(x, 0, 0, 1, 10);
            due(1f / 132f, x.reachShare(3));
            for (int stop = 0; stop < 11; stop++) {
                x.walk(stop, stop + 1, 1);
            }
            due(1f, x.reachShare(3));
            x.walk(10, 11, 0);
            due(110f / 132f, x.reachShare(3));
        });
    }

    private void reachShareRefused() {
        hold(50, NO_DAY, () -> each(outside(0, 27), day -> refused(ARGUMENT, x -> x.reachShare(day))));
        hold(50, "Throws `ArithmeticException` if there are fewer than two stops", () -> {
            refused(ARITHMETIC, Lastbus::new, x -> x.reachShare(0));
            refused(ARITHMETIC, () -> stops(5), x -> x.reachShare(27));
            refused(ARITHMETIC, () -> daily(5), x -> x.reachShare(3));
            due(0f, stops(5, 5).reachShare(27));
        });
        hold(50, ORDER, () -> {
            refused(ARGUMENT, Lastbus::new, x -> x.reachShare(28));
            refused(ARGUMENT, () -> stops(5), x -> x.reachShare(-1));
        });
    }

    private void meanBetween() {
        hold(51, "Returns the mean time between calls, without lateness.", () -> {
            Lastbus x = daily(0, 0);
            ride(x, 0, 100, 1, 110);
            x.late(3, 0, 0, 120);
            x.late(4, 0, 1, 120);
            due(10.0, x.meanBetween());
            x.shift(0, 60);
            due(10.0, x.meanBetween());
        });
        hold(51, MEAN, () -> {
            // From the departure to the arrival: what a trip stands at a stop is left out. Trips that never run count.
            Lastbus x = stops(0, 0, 0);
            x.service();
            x.trip(0, 0, 0);
            x.call(0, 1, 1, 2000);
            x.call(0, 2, 2001, 2879);
            due(1.0, x.meanBetween());
            ride(x, 0, 0, 1, 2);
            due(4.0 / 3.0, x.meanBetween());
            ride(x, 0, 0, 1, 2879);
            due(2883.0 / 4.0, x.meanBetween());
            x.trip(0, 0, 2879);
            due(2883.0 / 4.0, x.meanBetween());
        });
        hold(51, "Throws `ArithmeticException` if there are none", () -> {
            refused(ARITHMETIC, Lastbus::new, x -> x.meanBetween());
            refused(ARITHMETIC, FigureBoundaries::tripsOfOneCall, x -> x.meanBetween());
            Lastbus x = tripsOfOneCall();
            x.call(23, 1, 24, 24);
            due(1.0, x.meanBetween());
        });
    }

    private static Lastbus tripsOfOneCall() {
        Lastbus x = daily(0, 0);
        for (int trip = 0; trip < 24; trip++) {
            x.trip(0, 0, trip);
        }
        return x;
    }

    private static long sum(List<Integer> numbers) {
        BigInteger sum = BigInteger.valueOf(7);
        for (int number : numbers) {
            sum = sum.multiply(BigInteger.valueOf(31)).add(BigInteger.valueOf(number));
        }
        return sum.longValue();
    }

    private void checksum() {
        hold(52, SUM, () -> {
            due(217L, new Lastbus().checksum());
            due(sum(List.of(30, 0, 0)), stops(30, 0).checksum());
            due(sum(List.of(0, 30, 0)), stops(0, 30).checksum());
            due(sum(List.of(80)), typed(new Lastbus(), LONGEST_ROW).checksum());
        });
        hold(52, "that of the call 0 being its departure, and the departure", () -> {
            Lastbus x = stops(1, 2);
            x.service();
            x.trip(0, 1, 2879);
            List<Integer> numbers = new ArrayList<>(List.of(1, 2, 0, 1, 2879, 2879));
            for (int day = 0; day < 28; day++) {
                numbers.add(0);
            }
            numbers.add(0);
            due(sum(numbers), x.checksum());
            // Lateness, walks, wishes and a kept chain are no part of it.
            x.late(3, 0, 0, 120);
            x.walk(0, 1, 9);
            x.chain(0, 1, 3, 0);
            due(sum(numbers), x.checksum());
        });
    }

    private void checksumGoesRound() {
        hold(52, "a long that goes round.", () -> {
            Lastbus x = full();
            List<Integer> numbers = new ArrayList<>();
            for (int stop = 0; stop < 12; stop++) {
                numbers.add(stop);
            }
            int[] stops = {0, 1, 0, 1, 0, 1, 0, 2};
            numbers.add(0);
            for (int call = 0; call < 8; call++) {
                numbers.addAll(List.of(stops[call], 100 + 10 * call, 100 + 10 * call));
            }
            numbers.addAll(List.of(0, 2, 172, 172, 3, 180, 180));
            for (int trip = 2; trip < 24; trip++) {
                numbers.addAll(List.of(trip % 6, trip % 12, 2879, 2879));
            }
            for (int day = 0; day < 6 * 28; day++) {
                numbers.add(day < 28 ? 1 : 0);
            }
            numbers.add(80);
            due(sum(numbers), x.checksum());
        });
    }

    private void isSound() {
        hold(53, "the minute 480 and the stop 0, if there is one", () -> {
            due(true, new Lastbus().isSound(0));
            due(true, stops(0).isSound(27));
            due(true, daily(30).isSound(3));
        });
        hold(53, "that the pairs from the stop 0 to the last stop, if there are two stops, rise together", () -> {
            due(true, stops(0, 0).isSound(0));
            Lastbus x = daily(0, 0);
            ride(x, 0, 480, 1, 490);
            ride(x, 0, 480, 1, 490);
            ride(x, 0, 479, 1, 490);
            for (int day = 0; day < 28; day++) {
                due(true, x.isSound(day));
            }
        });
        hold(53, "that one can come by it leaving at the last minute for that, and not leaving a minute later", () -> {
            // Arrivals far behind what last can be asked for, and by the walk alone.
            Lastbus x = onDay(4, 0, 0, 0);
            ride(x, 0, 2878, 1, 2879);
            x.late(4, 0, 0, 120);
            x.walk(1, 2, 60);
            due(true, x.isSound(3));
            due(true, x.isSound(4));
            due(true, x.isSound(5));
        });
        hold(53, "and that the fewest vehicles are the same in both ways.", () -> {
            due(true, rich().isSound(3));
            due(true, rich().isSound(4));
            due(true, full().isSound(0));
            due(true, full().isSound(27));
        });
        hold(53, NO_DAY, () -> {
            each(outside(0, 27), day -> refused(ARGUMENT, x -> x.isSound(day)));
            each(outside(0, 27), day -> refused(ARGUMENT, Lastbus::new, x -> x.isSound(day)));
        });
    }
}
