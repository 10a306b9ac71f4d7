import java.util.Arrays;
import java.util.List;
import java.util.function.Supplier;

/** A call with right arguments, of which some are changed for one that is taken, or refused. */
final class Asked {
    interface Call {
        void of(Cloudseed x, int[] arguments);
    }

    private final Check check;
    private final Supplier<Cloudseed> made;
    private final Call call;
    private final int[] right;
    private List<Long> before;

    Asked(Check check, Supplier<Cloudseed> made, Call call, int... right) {
        this.check = check;
        this.made = made;
        this.call = call;
        this.right = right;
    }

    /** An argument from least to most is taken, any other one is refused. */
    void range(int at, int least, int most, Class<? extends RuntimeException> thrown) {
        taken(with(at, least));
        taken(with(at, most));
        refused(thrown, with(at, least - 1));
        refused(thrown, with(at, most + 1));
        refused(thrown, with(at, Integer.MIN_VALUE));
        refused(thrown, with(at, Integer.MAX_VALUE));
    }

    private int[] with(int at, int value) {
        int[] changed = right.clone();
        changed[at] = value;
        return changed;
    }

    void taken(int... arguments) {
        Cloudseed x = made.get();
        check.fails(Arrays.toString(arguments), null, () -> call.of(x, arguments));
    }

    /** It throws just that, and all answers are as they were ahead of it. */
    void refused(Class<? extends RuntimeException> thrown, int... arguments) {
        String what = Arrays.toString(arguments);
        Cloudseed x = made.get();
        check.fails(what, thrown, () -> call.of(x, arguments));
        check.due(what + " changes nothing: " + changed(arguments), changed(arguments).isEmpty(), true);
    }

    /** A question that is answered leaves all answers as they were, too. */
    void changesNothing(int... arguments) {
        taken(arguments);
        check.due(Arrays.toString(arguments) + ": " + changed(arguments), changed(arguments).isEmpty(), true);
    }

    private String changed(int[] arguments) {
        if (before == null) {
            before = Whole.of(made);
        }
        return Whole.difference(before, Whole.of(() -> {
            Cloudseed x = made.get();
            try {
                call.of(x, arguments);
            } catch (IndexOutOfBoundsException | IllegalArgumentException | IllegalStateException e) {
                return x;
            }
            return x;
        }));
    }
}
