/** Boundary cases of services and their days: promises 6 to 10. */
final class ServiceBoundaries extends Boundaries {
    ServiceBoundaries(Sentences doc) {
        super(doc);
    }

    @Override
    void holdAll() {
        service();
        week();
        weekRefused();
        putDay();
        runsOn();
        nextDay();
        nextDayRefused();
    }

    private void service() {
        hold(6, "At most 6 services are numbered from 0, each with the days on which it runs.", () -> {
            Lastbus x = new Lastbus();
            for (int service = 0; service < 6; service++) {
                due(service, x.service());
                x.putDay(service, service, true);
            }
            for (int pair = 0; pair < 36; pair++) {
                due(pair / 6 == pair % 6, x.runsOn(pair / 6, pair % 6));
            }
        });
        hold(6, "Adds a service that runs on no day.", () -> {
            Lastbus x = new Lastbus();
            x.service();
            x.week(0, 127, 0, 27);
            due(1, x.service());
            for (int day = 0; day < 28; day++) {
                due(false, x.runsOn(1, day));
            }
            due(0, x.week(1, 0, 0, 27));
        });
        hold(6, "Throws `IllegalStateException` if there are 6", () -> {
            refused(STATE, Tables::full, x -> x.service());
            Lastbus x = rich();
            due(3, x.service());
            due(4, x.service());
            due(5, x.service());
            thrown(STATE, () -> x.service());
            thrown(INDEX, () -> x.runsOn(6, 0));
        });
    }

    private void week() {
        hold(7, "those from one day to another one whose rest by 7 is a bit of a mask.", () -> {
            Lastbus x = new Lastbus();
            x.service();
            due(2, x.week(0, 1, 1, 20));
            due(true, x.runsOn(0, 7));
            due(true, x.runsOn(0, 14));
            due(false, x.runsOn(0, 0));
            due(false, x.runsOn(0, 21));
            due(6, x.week(0, 64, 0, 27));
            due(true, x.runsOn(0, 6));
            due(true, x.runsOn(0, 27));
            due(false, x.runsOn(0, 5));
        });
        hold(7, "Lets a service run on some days more", () -> {
            Lastbus x = new Lastbus();
            x.service();
            due(1, x.week(0, 127, 9, 9));
            due(1, x.week(0, 0, 0, 27));
            due(1, x.week(0, 4, 9, 9));
            due(4, x.week(0, 8, 0, 23));
            due(true, x.runsOn(0, 9));
        });
        hold(7, "`days`: the mask, 0 to 127", () -> {
            Lastbus x = new Lastbus();
            x.service();
            due(0, x.week(0, 0, 0, 27));
            due(28, x.week(0, 127, 0, 27));
        });
        hold(7, "`from`: the first day", () -> {
            Lastbus x = new Lastbus();
            x.service();
            due(3, x.week(0, 127, 25, 27));
            due(false, x.runsOn(0, 24));
            due(true, x.runsOn(0, 25));
            due(4, x.week(0, 127, 0, 0));
        });
        hold(7, "`to`: the last one", () -> {
            Lastbus x = new Lastbus();
            x.service();
            due(3, x.week(0, 127, 0, 2));
            due(true, x.runsOn(0, 2));
            due(false, x.runsOn(0, 3));
            due(4, x.week(0, 127, 27, 27));
            due(true, x.runsOn(0, 27));
        });
        hold(7, "Days are 0 to 27.", () -> {
            Lastbus x = new Lastbus();
            x.service();
            due(28, x.week(0, 127, 0, 27));
            due(true, x.runsOn(0, 0));
            due(true, x.runsOn(0, 27));
        });
    }

    private void weekRefused() {
        hold(7, NO_SERVICE, () -> {
            each(outside(0, 2), service -> refused(INDEX, x -> x.week(service, 127, 0, 27)));
            refused(INDEX, Tables::full, x -> x.week(6, 127, 0, 27));
        });
        hold(7, OUT_OF_RANGE, () -> each(outside(0, 127), days -> refused(ARGUMENT, x -> x.week(1, days, 0, 27))));
        hold(7, OUT_OF_RANGE, () -> each(outside(0, 27), day -> {
            refused(ARGUMENT, x -> x.week(1, 127, day, 27));
            refused(ARGUMENT, x -> x.week(1, 127, 0, day));
            refused(ARGUMENT, x -> x.week(1, 127, day, day));
        }));
        hold(7, "or the last day is ahead of the first one", () -> {
            refused(ARGUMENT, x -> x.week(1, 127, 1, 0));
            refused(ARGUMENT, x -> x.week(1, 127, 27, 26));
            refused(ARGUMENT, x -> x.week(1, 0, 27, 0));
        });
        hold(7, ORDER, () -> {
            refused(INDEX, x -> x.week(3, 128, 0, 27));
            refused(INDEX, x -> x.week(-1, 127, 0, 28));
            refused(INDEX, Tables::full, x -> x.week(6, 127, 5, 4));
        });
    }

    private void putDay() {
        hold(8, "Lets a service run on a day, or not.", () -> {
            Lastbus x = new Lastbus();
            x.service();
            due(false, x.putDay(0, 0, false));
            due(false, x.putDay(0, 0, true));
            due(true, x.putDay(0, 0, true));
            due(true, x.runsOn(0, 0));
            due(true, x.putDay(0, 0, false));
            due(false, x.putDay(0, 27, true));
            due(true, x.runsOn(0, 27));
            due(false, x.runsOn(0, 26));
            due(false, x.runsOn(0, 0));
        });
        hold(8, "Days are 0 to 27.", () -> {
            Lastbus x = new Lastbus();
            x.service();
            for (int day = 0; day < 28; day++) {
                due(false, x.putDay(0, day, true));
            }
            due(28, x.week(0, 0, 5, 5));
            thrown(ARGUMENT, () -> x.putDay(0, 28, false));
        });
        hold(8, NO_SERVICE, () -> {
            each(outside(0, 2), service -> refused(INDEX, x -> x.putDay(service, 3, true)));
            refused(INDEX, Tables::full, x -> x.putDay(6, 3, true));
        });
        hold(8, NO_DAY, () -> each(outside(0, 27), day -> {
            refused(ARGUMENT, x -> x.putDay(0, day, false));
            refused(ARGUMENT, x -> x.putDay(2, day, true));
        }));
        hold(8, ORDER, () -> {
            refused(INDEX, x -> x.putDay(3, 28, true));
            refused(INDEX, x -> x.putDay(-1, -1, false));
        });
    }

    private void runsOn() {
        hold(9, "Days are 0 to 27.", () -> {
            Lastbus x = new Lastbus();
            x.service();
            x.putDay(0, 0, true);
            x.putDay(0, 27, true);
            for (int day = 0; day < 28; day++) {
                due(day == 0 || day == 27, x.runsOn(0, day));
            }
        });
        hold(9, NO_SERVICE, () -> {
            each(outside(0, 2), service -> refused(INDEX, x -> x.runsOn(service, 3)));
            refused(INDEX, Lastbus::new, x -> x.runsOn(0, 0));
        });
        hold(9, NO_DAY, () -> each(outside(0, 27), day -> refused(ARGUMENT, x -> x.runsOn(0, day))));
        // A day is no bit that goes round: 32 days on is another one, which is not there.
        hold(9, NO_DAY, () -> refused(ARGUMENT, x -> x.runsOn(0, 32)));
        hold(9, ORDER, () -> {
            refused(INDEX, x -> x.runsOn(3, 28));
            refused(INDEX, x -> x.runsOn(-1, -1));
        });
    }

    private void nextDay() {
        hold(10, "Returns the first day from one on, on which a service runs.", () -> {
            Lastbus x = new Lastbus();
            x.service();
            x.putDay(0, 0, true);
            x.putDay(0, 26, true);
            due(0, x.nextDay(0, 0));
            due(26, x.nextDay(0, 1));
            due(26, x.nextDay(0, 26));
            x.putDay(0, 27, true);
            due(27, x.nextDay(0, 27));
            x.week(0, 127, 0, 27);
            due(13, x.nextDay(0, 13));
        });
    }

    private void nextDayRefused() {
        hold(10, NO_SERVICE, () -> {
            each(outside(0, 2), service -> refused(INDEX, x -> x.nextDay(service, 3)));
            refused(INDEX, Lastbus::new, x -> x.nextDay(0, 0));
        });
        hold(10, NO_DAY, () -> each(outside(0, 27), day -> refused(ARGUMENT, x -> x.nextDay(0, day))));
        hold(10, "Throws `NoSuchElementException` if it runs on none", () -> {
            refused(ELEMENT, x -> x.nextDay(2, 0));
            refused(ELEMENT, x -> x.nextDay(2, 27));
            // It runs on the day 4, which is ahead: none from 5 on.
            refused(ELEMENT, x -> x.nextDay(1, 5));
            refused(ELEMENT, x -> x.nextDay(1, 27));
            due(4, rich().nextDay(1, 4));
        });
        hold(10, ORDER, () -> {
            refused(INDEX, x -> x.nextDay(3, 28));
            refused(ARGUMENT, x -> x.nextDay(2, 28));
            refused(ARGUMENT, x -> x.nextDay(2, -1));
        });
    }
}
