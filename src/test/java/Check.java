import java.util.function.IntUnaryOperator;
import java.util.function.Supplier;

/** Counts and prints the answers that are not as due. */
final class Check {
    static final Class<IndexOutOfBoundsException> INDEX = IndexOutOfBoundsException.class;
    static final Class<IllegalArgumentException> ARGUMENT = IllegalArgumentException.class;
    static final Class<IllegalStateException> STATE = IllegalStateException.class;

    interface Call {
        long answer();
    }

    /** A call on the object that it is given. */
    interface CallOn {
        long answer(BarredGrid x);
    }

    private static int wrong = 0;

    private Check() {
    }

    static void due(String what, long want, long got) {
        if (got != want) {
            wrong++;
            System.out.println(what + " answered " + got + ", due is " + want);
        }
    }

    static void due(String what, boolean want, boolean got) {
        due(what, want ? 1 : 0, got ? 1 : 0);
    }

    static void dueAll(String what, int[] want, IntUnaryOperator call) {
        for (int i = 0; i < want.length; i++) {
            due(what + " at " + i, want[i], call.applyAsInt(i));
        }
    }

    static void throwsIt(String what, Class<? extends RuntimeException> want, Call call) {
        String got;
        try {
            got = "answered " + call.answer();
        } catch (RuntimeException e) {
            if (e.getClass() == want) {
                return;
            }
            got = "threw " + e.getClass().getName();
        }
        wrong++;
        System.out.println(what + " " + got + ", due is " + want.getName());
    }

    /** The call on an object that is made so throws this very exception, and changes nothing of the object. */
    static void refused(String what, Class<? extends RuntimeException> want, Supplier<BarredGrid> maker, CallOn call) {
        throwsIt(what, want, () -> call.answer(maker.get()));
        changesNothing(what, maker, call);
    }

    static void changesNothing(String what, Supplier<BarredGrid> maker, CallOn call) {
        String before = Watch.everything(maker);
        String after = Watch.everything(() -> {
            BarredGrid x = maker.get();
            try {
                call.answer(x);
            } catch (RuntimeException e) {
                // What it throws is looked at elsewhere; here only what it leaves.
            }
            return x;
        });
        if (!before.equals(after)) {
            wrong++;
            System.out.println(what + " changed something: before it stood" + before + "\nand after it" + after);
        }
    }

    static void end() {
        System.out.println(wrong == 0 ? "all answers are as due" : wrong + " answers are not as due");
        if (wrong != 0) {
            System.exit(1);
        }
    }
}
