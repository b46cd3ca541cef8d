/** Boundary cases of typed texts and table rows: promises 18 to 22. */
final class TextBoundaries extends Boundaries {
    private static final String ROW = "A table row is, with {} for any number of times and [] for perhaps";
    private static final String FIRST_FAULT =
            "The place of a fault is that of the first sign with which no table row can go on";
    private static final String NO_ROW =
            "Throws `IllegalArgumentException` if it is no table row; the place of the fault is kept";
    private static final String NOT_AS_TOLD = "or the calls are not as told in part 2";

    TextBoundaries(Sentences doc) {
        super(doc);
    }

    @Override
    void holdAll() {
        type();
        typeNumber();
        typeNumberRefused();
        erase();
        readRow();
        readRowForms();
        readNoRow();
        readUnfit();
        readRefused();
        faultAt();
        faultPlaces();
    }

    private static Lastbus text(String text) {
        return typed(rich(), text);
    }

    /** A text of so many signs. */
    private static Lastbus signs(int count) {
        return text("1".repeat(count));
    }

    /** All is full, but one trip may be added. */
    private static Lastbus fullOf23(String text) {
        Lastbus x = daily(0, 0);
        for (int trip = 0; trip < 23; trip++) {
            x.trip(0, 0, trip);
        }
        return typed(x, text);
    }

    private void type() {
        hold(18, "There is one typed text of at most 80 signs.", () -> {
            Lastbus x = new Lastbus();
            for (int sign = 1; sign <= 80; sign++) {
                due(sign, x.type('7'));
            }
            due(80, x.erase());
            due(1, x.type('7'));
        });
        hold(18, "`sign`: any sign", () -> {
            Lastbus x = new Lastbus();
            char[] all = {0, 1, '\n', ' ', '0', '~', 127, 128, 255, 256, 32767, 65535};
            for (int sign = 0; sign < all.length; sign++) {
                due(sign + 1, x.type(all[sign]));
            }
            due(all.length, x.erase());
        });
        hold(18, "Throws `IllegalStateException` if 80 are typed", () -> {
            refused(STATE, Tables::full, x -> x.type('0'));
            refused(STATE, () -> text(LONGEST_ROW), x -> x.type('0'));
            refused(STATE, () -> text(LONGEST_ROW), x -> x.type((char) 0));
            due(80, signs(79).type('0'));
        });
    }

    private void typeNumber() {
        hold(19, "Types a number in digits, without 0 ahead of others.", () -> {
            Lastbus x = daily(0, 0, 0, 0, 0, 0, 0, 0, 0, 0, 0);
            due(1, x.typeNumber(0));
            x.type(':');
            due(4, x.typeNumber(10));
            x.type('@');
            due(9, x.typeNumber(1001));
            x.type(',');
            x.typeNumber(9);
            x.type('@');
            due(16, x.typeNumber(2000));
            x.type('-');
            due(21, x.typeNumber(2020));
            due(0, x.readRow());
            due(10, x.stopAt(0, 0));
            due(1001, x.timeAt(0, 0, false));
            due(2000, x.timeAt(0, 1, true));
            due(2020, x.timeAt(0, 1, false));
        });
        hold(19, "`number`: 0 to 9999", () -> {
            int[] numbers = {0, 9, 10, 99, 100, 999, 1000, 9999};
            for (int i = 0; i < numbers.length; i++) {
                due(i / 2 + 1, new Lastbus().typeNumber(numbers[i]));
            }
        });
        hold(19, "Returns how many signs are typed then.", () -> {
            due(21, rich().typeNumber(1234));
            due(18, rich().typeNumber(0));
            due(80, signs(76).typeNumber(1000));
        });
    }

    private void typeNumberRefused() {
        hold(19, "Throws `IllegalArgumentException` if it is out of range", () ->
                each(outside(0, 9999), number -> refused(ARGUMENT, x -> x.typeNumber(number))));
        hold(19, "Throws `IllegalStateException` if more than 80 would be typed", () -> {
            int[] numbers = {0, 9, 10, 99, 100, 999, 1000, 9999};
            for (int i = 0; i < numbers.length; i++) {
                int number = numbers[i];
                int digits = i / 2 + 1;
                due(80, signs(80 - digits).typeNumber(number));
                refused(STATE, () -> signs(81 - digits), x -> x.typeNumber(number));
                refused(STATE, () -> signs(80), x -> x.typeNumber(number));
            }
        });
        hold(19, ORDER, () -> each(outside(0, 9999), number ->
                refused(ARGUMENT, Tables::full, x -> x.typeNumber(number))));
    }

    private void erase() {
        hold(20, "Empties the typed text.", () -> {
            Lastbus x = text("0:0@");
            x.erase();
            type(x, "0:1@7");
            due(4, x.readRow());
            due(1, x.stopAt(4, 0));
        });
        hold(20, "Returns how many signs it had.", () -> {
            due(0, new Lastbus().erase());
            due(80, full().erase());
            Lastbus x = signs(1);
            due(1, x.erase());
            due(0, x.erase());
        });
    }

    private void readRow() {
        hold(21, "Adds the trip of which the typed text is the table row; the text is empty then.", () -> {
            Lastbus x = rich();
            due(4, x.readRow());
            due(0, x.erase());
            due(5, x.trips());
            due(2, x.calls(4));
            due(600, x.timeAt(4, 0, false));
            due(610, x.timeAt(4, 1, true));
            due(612, x.timeAt(4, 1, false));
            thrown(ARGUMENT, () -> x.readRow());
            due(5, x.trips());
        });
        hold(21, "Adds the trip of which the typed text is the table row; the text is empty then.", () -> {
            Lastbus x = text(LONGEST_ROW);
            due(4, x.readRow());
            due(6, x.calls(4));
            due(41, x.timeAt(4, 4, false));
            due(1, x.stopAt(4, 5));
            due(1, x.type('0'));
        });
        hold(21, "that is the service", () -> {
            Lastbus x = text("1:3@5");
            due(4, x.readRow());
            due(4, x.vehicles(4));
            due(2, x.vehicles(5));
            Lastbus y = text("0002:3@5");
            due(4, y.readRow());
            due(2, y.vehicles(5));
        });
        hold(21, "which is the arrival if none is told.", () -> {
            Lastbus x = text("0:0@5,1@6,2@7-9,3@10");
            due(4, x.readRow());
            due(6, x.timeAt(4, 1, false));
            due(7, x.timeAt(4, 2, true));
            due(9, x.timeAt(4, 2, false));
            due(10, x.timeAt(4, 3, false));
        });
    }

    private void readRowForms() {
        hold(21, ROW, () -> {
            due(1, readCalls("0:0@5"));
            due(2, readCalls("0:0@5,1@6"));
            due(8, readCalls("0:0@1,1@2,0@3,1@4-4,0@5,1@6,0@7,1@8-9"));
        });
        hold(21, "where number is one to four digits", () -> {
            for (String row : new String[] {"0:1@7", "00:01@07", "000:001@007", "0000:0001@0007"}) {
                Lastbus x = text(row);
                due(4, x.readRow());
                due(1, x.stopAt(4, 0));
                due(7, x.timeAt(4, 0, true));
            }
            refusedRow(() -> text("00000:1@7"), 4);
            refusedRow(() -> text("0:00001@7"), 6);
            refusedRow(() -> text("0:1@00007"), 8);
        });
        hold(21, "Times are minutes, 0 to 2879", () -> {
            Lastbus x = text("0:1@0,0@2879");
            due(4, x.readRow());
            due(0, x.timeAt(4, 0, true));
            due(2879, x.timeAt(4, 1, false));
        });
    }

    private static int readCalls(String row) {
        Lastbus x = text(row);
        return x.calls(x.readRow());
    }

    private void readNoRow() {
        hold(21, NO_ROW, () -> {
            refusedRow(() -> text(""), 0);
            refusedRow(() -> text("x"), 0);
            refusedRow(() -> text("0:0@600,"), 8);
            refusedRow(() -> text(LONGEST_ROW.substring(0, 79) + ","), 80);
            refusedRow(() -> text(LONGEST_ROW.substring(0, 79) + ":"), 79);
            refusedRow(() -> typed(full(), "0:0@5-"), 5);
        });
        hold(21, "A method that throws an exception changes nothing, but for the place of a fault.", () -> {
            Lastbus x = rich();
            due(2, x.faultAt());
            type(x, "-");
            long sum = x.checksum();
            thrown(ARGUMENT, () -> x.readRow());
            due(17, x.faultAt());
            due(sum, x.checksum());
            due(4, x.trips());
            due(18, x.erase());
        });
    }

    private void readUnfit() {
        hold(21, "Throws `UnsupportedOperationException` if there is no such service or stop", () -> {
            for (String row : new String[] {"3:0@5", "9999:0@5", "0:5@5", "0:9999@5", "0:0@5,5@6", "0:0@5,0005@6",
                "0:0@5,1@6,2@7,9999@8"}) {
                refused(SUPPORT, () -> text(row), x -> x.readRow());
            }
            due(5, text("2:4@5").readRow() + 1);
        });
        hold(21, NOT_AS_TOLD, () -> {
            // Times out of range, or not rising, or a departure ahead of the arrival.
            for (String row : new String[] {"0:0@2880", "0:0@9999", "0:0@5,1@2880", "0:0@5,1@6-2880", "0:0@5,1@5",
                "0:0@5,1@4", "0:0@5,1@7-6", "0:0@5,1@7-9,0@9", "0:0@5,1@7-9,0@8-12"}) {
                refused(SUPPORT, () -> text(row), x -> x.readRow());
            }
        });
        hold(21, NOT_AS_TOLD, () -> {
            // The same stop twice, and more calls than 8.
            for (String row : new String[] {"0:0@5,0@6", "0:0@5,1@6,1@7", "0:0@5,00@6",
                "0:0@1,1@2,0@3,1@4,0@5,1@6,0@7,1@8,0@9", "0:0@1,1@2,0@3,1@4,0@5,1@6,0@7,1@8,0@9,1@9999",
                "0:0@1,1@2,0@3,1@4,0@5,1@6,0@7,1@8,0@9,1@10,0@11,1@12,0@13,1@14,0@15,1@16,0@17"}) {
                refused(SUPPORT, () -> text(row), x -> x.readRow());
            }
        });
        hold(21, "Throws `UnsupportedOperationException` if there is no such service or stop", () -> {
            // The place of the last fault stays: it is a table row.
            Lastbus x = text("3:0@5");
            thrown(SUPPORT, () -> x.readRow());
            due(2, x.faultAt());
            Lastbus y = typed(stops(0), "0:0@5");
            thrown(SUPPORT, () -> y.readRow());
            thrown(ELEMENT, () -> y.faultAt());
        });
    }

    private void readRefused() {
        hold(21, "Throws `IllegalStateException` if there are 24 trips", () -> {
            refused(STATE, Tables::full, x -> x.readRow());
            refused(STATE, () -> typed(full(), "0:0@5"), x -> x.readRow());
            Lastbus x = fullOf23("0:0@5,1@6");
            due(23, x.readRow());
            due(2, x.calls(23));
            type(x, "0:0@5");
            thrown(STATE, () -> x.readRow());
            due(5, x.erase());
            due(24, x.trips());
        });
        hold(21, ORDER, () -> {
            // No row, that also names what is not there; no row, and unfit rows, at 24 trips.
            refusedRow(() -> text("9:9@9999,9@5x"), 12);
            refusedRow(() -> typed(full(), "0:0@5x"), 5);
            refusedRow(() -> typed(full(), "7:0@5,"), 6);
            refused(SUPPORT, () -> typed(full(), "6:0@5"), x -> x.readRow());
            refused(SUPPORT, () -> typed(full(), "0:12@5"), x -> x.readRow());
            refused(SUPPORT, () -> typed(full(), "0:0@2880"), x -> x.readRow());
            refused(SUPPORT, () -> typed(full(), "0:0@5,0@6"), x -> x.readRow());
        });
    }

    private void faultAt() {
        hold(22, "Throws `NoSuchElementException` if there was none", () -> {
            refused(ELEMENT, Lastbus::new, x -> x.faultAt());
            refused(ELEMENT, () -> typed(daily(0), "0:0@5"), x -> x.faultAt());
            Lastbus x = typed(daily(0), "0:0@5");
            x.readRow();
            thrown(ELEMENT, () -> x.faultAt());
        });
        hold(22, "Returns the place of the last fault.", () -> {
            Lastbus x = new Lastbus();
            thrown(ARGUMENT, () -> x.readRow());
            due(0, x.faultAt());
            type(x, "12345");
            thrown(ARGUMENT, () -> x.readRow());
            due(4, x.faultAt());
            due(4, x.faultAt());
            x.erase();
            due(4, x.faultAt());
            type(x, "1");
            thrown(ARGUMENT, () -> x.readRow());
            due(1, x.faultAt());
            typed(rich(), "0:0@5").readRow();
            due(1, x.faultAt());
        });
        hold(22, "Returns the place of the last fault.", () -> {
            Lastbus x = rich();
            x.readRow();
            due(2, x.faultAt());
        });
    }

    private void faultPlaces() {
        hold(22, FIRST_FAULT, () -> {
            String[] rows = {"x", ":", "-1:0@5", "0x", "0@", "0,", "0:@", "0:x", "0::", "0:0:", "0:0,", "0:0@x", "0:0@@",
                "0:0@5-", "0:0@5:", "0:0@5@", "0:0@5x", "0:0@5,,", "0:0@5,x", "0:0@5,1:", "0:0@5,1-", "0:0@5,1@-",
                "0:0@5,1@6-,", "0:0@5,1@6--", "0:0@5,1@6-7-", "0:0@5,1@6-7@", "0:0@5,1@6:", " 0:0@5", "0:0@5 "};
            int[] places = {0, 0, 0, 1, 1, 1, 2, 2, 2, 3, 3, 4, 4,
                5, 5, 5, 5, 6, 6, 7, 7, 8,
                10, 10, 11, 11, 9, 0, 5};
            for (int i = 0; i < rows.length; i++) {
                String row = rows[i];
                refusedRow(() -> text(row), places[i]);
                // What stands behind the fault has no weight.
                refusedRow(() -> text(row + "0:0@5"), places[i]);
            }
        });
        hold(22, FIRST_FAULT, () -> {
            // Signs next to the digits and to those of a row, and such as would look like them as a smaller number.
            for (char sign : new char[] {'/', ':' + 1, '?', 'A', '+', '.', 0, 255, (char) ('0' + 256), 0x0660, 65535}) {
                refusedRow(() -> text("0:0@5" + sign), 5);
                refusedRow(() -> text(sign + "0:0@5"), 0);
                refusedRow(() -> text("0:0@" + sign), 4);
            }
        });
        hold(22, FIRST_FAULT, () -> {
            String[] rows = {"12345", "0:12345", "0:0@12345", "0:0@5,12345", "0:0@5,1@12345", "0:0@5,1@6-12345"};
            int[] places = {4, 6, 8, 10, 12, 14};
            for (int i = 0; i < rows.length; i++) {
                String row = rows[i];
                refusedRow(() -> text(row), places[i]);
            }
        });
        hold(22, "or how many signs there are, if more would be needed.", () -> {
            String row = "12:34@56,78@90-11";
            for (int length = 0; length <= row.length(); length++) {
                String part = row.substring(0, length);
                boolean isRow = length == 7 || length == 8 || length == 13 || length == 14 || length > 15;
                if (!isRow) {
                    refusedRow(() -> text(part), length);
                }
            }
        });
        hold(22, "or how many signs there are, if more would be needed.", () -> {
            String row = "0:0@5" + ",1@6".repeat(18) + ",1@";
            refusedRow(() -> text(row), 80);
        });
    }
}
