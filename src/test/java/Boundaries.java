import java.util.NoSuchElementException;
import java.util.function.Consumer;
import java.util.function.IntConsumer;
import java.util.function.Supplier;

/** What the tests of boundary cases share. */
abstract class Boundaries extends Tables {
    static final Class<?> INDEX = IndexOutOfBoundsException.class;
    static final Class<?> ARGUMENT = IllegalArgumentException.class;
    static final Class<?> STATE = IllegalStateException.class;
    static final Class<?> ELEMENT = NoSuchElementException.class;
    static final Class<?> SUPPORT = UnsupportedOperationException.class;
    static final Class<?> ARITHMETIC = ArithmeticException.class;
    static final String ORDER = Sentences.ORDER;
    static final String NO_STOP = "Throws `IndexOutOfBoundsException` if there is no such stop";
    static final String NO_STOPS = NO_STOP + ", for either";
    static final String NO_TRIP = "Throws `IndexOutOfBoundsException` if there is no such trip";
    static final String NO_CALL = NO_TRIP + " or call";
    static final String NO_SERVICE = "Throws `IndexOutOfBoundsException` if there is no such service";
    static final String NO_DAY = "Throws `IllegalArgumentException` if there is no such day";
    static final String OUT_OF_RANGE = "Throws `IllegalArgumentException` if a number is out of range";
    static final String DAY_OR_MINUTE = "Throws `IllegalArgumentException` if the day or the minute is out of range";
    static final String NO_WAY = "Throws `NoSuchElementException` if there is no way";

    private final Sentences doc;

    Boundaries(Sentences doc) {
        this.doc = doc;
    }

    abstract void holdAll();

    void hold(int promise, String sentence, Runnable test) {
        doc.hold(promise, sentence, test);
    }

    void due(Object want, Object got) {
        doc.due(want, got);
    }

    void thrown(Class<?> want, Supplier<Object> call) {
        doc.thrown(want, call);
    }

    /** The call throws, and what stands afterwards is what stood ahead of it; on the rich table. */
    void refused(Class<?> want, Consumer<Lastbus> call) {
        doc.refused(want, Tables::rich, call);
    }

    void refused(Class<?> want, Supplier<Lastbus> made, Consumer<Lastbus> call) {
        doc.refused(want, made, call);
    }

    void refusedRow(Supplier<Lastbus> made, int place) {
        doc.refusedRow(made, place);
    }

    void seen(Consumer<Lastbus> call) {
        doc.seen(Tables::rich, call);
    }

    static void each(int[] numbers, IntConsumer with) {
        for (int number : numbers) {
            with.accept(number);
        }
    }
}
