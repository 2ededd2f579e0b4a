import java.util.function.Supplier;
import java.util.function.ToLongFunction;

/**
 * One sentence of the document that names a boundary, with the house that it is tried on. Each call is made on a
 * house made anew, so that no object is used for more calls than the document allows.
 */
final class Sentence {
    private final String name;
    private final Supplier<SilenceCount> made;

    private Sentence(String name, Supplier<SilenceCount> made) {
        this.name = name;
        this.made = made;
    }

    static Sentence ofTerms(String words, Supplier<SilenceCount> made) {
        return new Sentence("Terms, \"" + words + "\": ", made);
    }

    static Sentence of(int promise, String words, Supplier<SilenceCount> made) {
        return new Sentence("Promise " + promise + ", \"" + words + "\": ", made);
    }

    Sentence answers(String call, ToLongFunction<SilenceCount> asked, long want) {
        Due.is(name + call, asked.applyAsLong(made.get()), want);
        return this;
    }

    /** A refused call answers so, and the house is then as its twin is, of whom nothing was asked. */
    Sentence refuses(String call, ToLongFunction<SilenceCount> asked, long want) {
        SilenceCount house = made.get();
        Due.is(name + call, asked.applyAsLong(house), want);
        String now = Told.toTheEnd(house);
        String twin = Told.toTheEnd(made.get());
        Due.isTrue(name + call + " changed\n  " + twin + "\n  to\n  " + now, now.equals(twin));
        return this;
    }
}
