import java.util.function.Predicate;
import java.util.function.Supplier;
import java.util.function.ToIntFunction;

/** Asks that a call is refused and that it changes nothing. */
final class Refused {
    private Refused() {
    }

    static void none(String what, Supplier<OldStadium> made, ToIntFunction<OldStadium> call) {
        Check.is(what, call.applyAsInt(made.get()), OldStadium.NONE);
        changesNothing(what, made, call);
    }

    static void no(String what, Supplier<OldStadium> made, Predicate<OldStadium> call) {
        Check.is(what, call.test(made.get()), false);
        changesNothing(what, made, x -> call.test(x) ? 1 : 0);
    }

    /** The call is made twice: what is refused once is refused anew. */
    static void changesNothing(String what, Supplier<OldStadium> made, ToIntFunction<OldStadium> call) {
        String after = Probe.of(() -> {
            OldStadium x = made.get();
            call.applyAsInt(x);
            call.applyAsInt(x);
            return x;
        });
        Check.is(what + " changes nothing", after.equals(Probe.of(made)), true);
    }
}
