/** Boundary cases of stops and walks: promises 1 to 5. */
final class StopBoundaries extends Boundaries {
    StopBoundaries(Sentences doc) {
        super(doc);
    }

    @Override
    void holdAll() {
        newObject();
        calls512();
        stop();
        setChange();
        walk();
        walkRefused();
        walkTime();
        walkTimeRefused();
    }

    private void newObject() {
        hold(1, "Creates a table without stops, services and trips.", () -> {
            Lastbus x = new Lastbus();
            due(0, x.trips());
            due(7L * 31, x.checksum());
            thrown(INDEX, () -> x.setChange(0, 0));
            thrown(INDEX, () -> x.runsOn(0, 0));
            thrown(INDEX, () -> x.calls(0));
            thrown(INDEX, () -> x.earliest(0, 0, 0, 0));
        });
        hold(1, "Creates a table without stops, services and trips.", () -> {
            Lastbus x = new Lastbus();
            due(0, x.onTime());
            due(0, x.dropWishes());
            due(0, x.erase());
            due(0, x.bestWaits(0));
            due(0, x.waitCost(27, 0));
            due(0, x.bridges(0));
            due(0, x.vehicles(27));
            due(0, x.vehiclesByMatching(0));
            thrown(ELEMENT, () -> x.faultAt());
            thrown(ELEMENT, () -> x.ride(0, 't'));
            due(true, x.isSound(0));
        });
    }

    private void calls512() {
        hold(1, "An object is used for at most 512 calls after it has been made", () -> {
            Lastbus x = daily(3, 4);
            ride(x, 0, 480, 1, 490);
            for (int call = 7; call < 511; call += 2) {
                x.shift(0, 60);
                x.shift(0, -60);
            }
            due(490, x.earliest(0, 1, 3, 480));
            due(480, x.last(0, 1, 3, 490));
        });
        hold(1, "An object is used for at most 512 calls after it has been made", () -> {
            Lastbus x = new Lastbus();
            for (int call = 1; call < 512; call++) {
                thrown(ARGUMENT, () -> x.readRow());
            }
            due(0, x.faultAt());
        });
    }

    private void stop() {
        hold(2, "`change`: its minutes for changing, 0 to 30", () -> {
            Lastbus x = new Lastbus();
            due(0, x.stop(0));
            due(1, x.stop(30));
            due(0, x.setChange(0, 5));
            due(30, x.setChange(1, 5));
        });
        hold(2, "At most 12 stops are numbered from 0, each with 0 to 30 minutes for changing.", () -> {
            Lastbus x = new Lastbus();
            for (int stop = 0; stop < 12; stop++) {
                due(stop, x.stop(30 - stop));
            }
            due(19, x.setChange(11, 19));
            due(0, x.walk(0, 11, 60));
            due(60, x.walkTime(11, 0));
        });
        hold(2, OUT_OF_RANGE, () -> each(outside(0, 30), change ->
                refused(ARGUMENT, x -> x.stop(change))));
        hold(2, "Throws `IllegalStateException` if there are 12", () -> {
            refused(STATE, Tables::full, x -> x.stop(0));
            refused(STATE, () -> stops(0, 0, 0, 0, 0, 0, 0, 0, 0, 0, 0, 0), x -> x.stop(30));
            due(11, stops(0, 0, 0, 0, 0, 0, 0, 0, 0, 0, 0).stop(30));
        });
        hold(2, ORDER, () -> each(outside(0, 30), change ->
                refused(ARGUMENT, Tables::full, x -> x.stop(change))));
    }

    private void setChange() {
        hold(3, "`change`: 0 to 30", () -> {
            Lastbus x = stops(7);
            x.setChange(0, 0);
            due(0, x.setChange(0, 30));
            due(30, x.setChange(0, 0));
        });
        hold(3, "Returns those ahead of it.", () -> {
            Lastbus x = stops(7, 8);
            due(7, x.setChange(0, 9));
            due(9, x.setChange(0, 9));
            due(8, x.setChange(1, 7));
        });
        hold(3, NO_STOP, () -> {
            each(outside(0, 4), stop -> refused(INDEX, x -> x.setChange(stop, 9)));
            refused(INDEX, Tables::full, x -> x.setChange(12, 9));
            refused(INDEX, Lastbus::new, x -> x.setChange(0, 9));
        });
        hold(3, OUT_OF_RANGE, () -> each(outside(0, 30), change ->
                refused(ARGUMENT, x -> x.setChange(0, change))));
        hold(3, ORDER, () -> {
            refused(INDEX, x -> x.setChange(5, 31));
            refused(INDEX, x -> x.setChange(-1, -1));
        });
    }

    private void walk() {
        hold(4, "Between two stops a walk of 1 to 60 minutes can be told, both ways.", () -> {
            Lastbus x = stops(0, 0, 0);
            x.walk(0, 1, 1);
            x.walk(2, 1, 60);
            due(1, x.walkTime(0, 1));
            due(1, x.walkTime(1, 0));
            due(60, x.walkTime(1, 2));
            due(60, x.walkTime(2, 1));
            due(60, x.walk(1, 2, 5));
        });
        hold(4, "Tells a walk, in place of one that was told, or takes it away.", () -> {
            Lastbus x = stops(0, 0);
            x.walk(0, 1, 9);
            x.walk(1, 0, 20);
            due(20, x.walkTime(0, 1));
            x.walk(0, 1, 0);
            thrown(ELEMENT, () -> x.walkTime(0, 1));
            thrown(ELEMENT, () -> x.walkTime(1, 0));
        });
        hold(4, "`minutes`: 1 to 60, or 0 to take it away", () -> {
            Lastbus x = stops(0, 0);
            due(0, x.walk(0, 1, 0));
            thrown(ELEMENT, () -> x.walkTime(0, 1));
            due(0, x.walk(0, 1, 1));
            due(1, x.walk(0, 1, 60));
            due(60, x.walk(0, 1, 0));
        });
        hold(4, "Returns the minutes ahead of it, 0 for none.", () -> {
            Lastbus x = stops(0, 0, 0);
            due(0, x.walk(0, 1, 5));
            due(0, x.walk(1, 2, 6));
            // The told minutes, not the walk by another stop.
            due(0, x.walk(0, 2, 7));
            due(7, x.walk(2, 0, 0));
            due(0, x.walk(0, 2, 0));
        });
    }

    private void walkRefused() {
        hold(4, NO_STOPS, () -> {
            each(outside(0, 4), stop -> refused(INDEX, x -> x.walk(stop, 0, 9)));
            each(outside(0, 4), stop -> refused(INDEX, x -> x.walk(0, stop, 9)));
            refused(INDEX, Tables::full, x -> x.walk(11, 12, 9));
        });
        hold(4, "`other`: another one", () ->
                refused(ARGUMENT, x -> x.walk(2, 2, 9)));
        hold(4, "Throws `IllegalArgumentException` if both are the same", () -> {
            refused(ARGUMENT, x -> x.walk(0, 0, 0));
            refused(ARGUMENT, Tables::full, x -> x.walk(11, 11, 60));
        });
        hold(4, "or a number is out of range", () -> each(outside(0, 60), minutes ->
                refused(ARGUMENT, x -> x.walk(2, 3, minutes))));
        hold(4, ORDER, () -> {
            refused(INDEX, x -> x.walk(5, 5, 9));
            refused(INDEX, x -> x.walk(-1, 0, 61));
            refused(INDEX, x -> x.walk(0, 5, -1));
        });
    }

    private void walkTime() {
        hold(5, "The walk from a stop to another one is the least sum of told walks that lead there one behind the other",
                () -> {
                    Lastbus x = stops(0, 0, 0, 0);
                    x.walk(0, 1, 20);
                    x.walk(1, 2, 20);
                    x.walk(0, 2, 40);
                    due(40, x.walkTime(0, 2));
                    x.walk(0, 2, 41);
                    due(40, x.walkTime(0, 2));
                    x.walk(0, 2, 39);
                    due(39, x.walkTime(2, 0));
                    x.walk(2, 3, 60);
                    due(99, x.walkTime(0, 3));
                    due(80, x.walkTime(3, 1));
                });
        hold(5, "The walk from a stop to another one is the least sum of told walks that lead there one behind the other",
                () -> {
                    Lastbus x = stops(0, 0, 0, 0, 0, 0, 0, 0, 0, 0, 0, 0);
                    for (int stop = 11; stop > 0; stop--) {
                        x.walk(stop, stop - 1, 60);
                    }
                    due(660, x.walkTime(0, 11));
                    due(660, x.walkTime(11, 0));
                    x.walk(11, 0, 60);
                    due(360, x.walkTime(0, 6));
                    due(300, x.walkTime(0, 7));
                });
        hold(5, "there may be none.", () -> {
            Lastbus x = stops(0, 0, 0, 0);
            x.walk(0, 1, 5);
            x.walk(2, 3, 5);
            thrown(ELEMENT, () -> x.walkTime(0, 2));
            thrown(ELEMENT, () -> x.walkTime(3, 1));
        });
        hold(5, "Returns the walk from a stop to another one.", () -> {
            Lastbus x = stops(30, 30, 30);
            x.walk(0, 1, 1);
            x.walk(1, 2, 1);
            // No minutes for changing on the way.
            due(2, x.walkTime(0, 2));
        });
        hold(5, "`other`: another one, or the same", () -> {
            due(0, rich().walkTime(4, 4));
            due(6, rich().walkTime(3, 2));
        });
        hold(5, "Returns the minutes, 0 for the same.", () -> {
            Lastbus x = stops(30, 30);
            due(0, x.walkTime(0, 0));
            x.walk(0, 1, 5);
            due(0, x.walkTime(1, 1));
        });
    }

    private void walkTimeRefused() {
        hold(5, NO_STOPS, () -> {
            each(outside(0, 4), stop -> refused(INDEX, x -> x.walkTime(stop, 0)));
            each(outside(0, 4), stop -> refused(INDEX, x -> x.walkTime(0, stop)));
            refused(INDEX, Tables::full, x -> x.walkTime(11, 12));
        });
        hold(5, "Throws `NoSuchElementException` if there is none", () -> {
            refused(ELEMENT, x -> x.walkTime(0, 4));
            refused(ELEMENT, Tables::full, x -> x.walkTime(11, 0));
        });
        hold(5, ORDER, () -> {
            // The same number twice is no way around: the stop must be there.
            refused(INDEX, x -> x.walkTime(5, 5));
            refused(INDEX, x -> x.walkTime(4, 5));
            refused(INDEX, Lastbus::new, x -> x.walkTime(0, 0));
        });
    }
}
