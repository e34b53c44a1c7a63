import java.util.Arrays;
import java.util.function.Supplier;

/** Counts what a test looks at; prints what is not as it is due. */
final class Check {
    private final String test;
    private int looked;
    private int wrong;

    Check(String test) {
        this.test = test;
    }

    interface Call {
        Object on(Quaylock yard);
    }

    void same(String what, Object got, Object due) {
        looked++;
        if (!due.equals(got)) {
            wrong(what + " answered " + got + ", due is " + due);
        }
    }

    /**
     * Looks whether the call throws exactly this exception and changes nothing: one yard of two that are made alike
     * gets the call, and then both must answer everything alike.
     */
    void refused(String what, Supplier<Quaylock> scene, Call call, Class<? extends RuntimeException> due) {
        Quaylock asked = scene.get();
        String outcome = "no exception";
        try {
            outcome = "the answer " + call.on(asked);
        } catch (RuntimeException e) {
            outcome = e.getClass().getName();
        }
        same(what, outcome, due.getName());
        alike(what, asked, scene.get());
    }

    /** The same for a call that answers, but must change nothing. */
    void onlyTells(String what, Supplier<Quaylock> scene, Call call, Object due) {
        Quaylock asked = scene.get();
        Object got;
        try {
            got = call.on(asked);
        } catch (RuntimeException e) {
            got = e.getClass().getName();
        }
        same(what, got, due);
        alike(what, asked, scene.get());
    }

    /** Prints no more than the first answer in which the two yards differ. */
    void alike(String what, Quaylock asked, Quaylock untouched) {
        String[] got = Snapshot.of(asked).split("\n");
        String[] due = Snapshot.of(untouched).split("\n");
        int differing = Arrays.mismatch(got, due);
        if (differing < 0) {
            looked++;
        } else {
            same(what + ", the yard after it", line(got, differing), line(due, differing));
        }
    }

    private static String line(String[] lines, int index) {
        return index < lines.length ? lines[index] : "nothing more";
    }

    private void wrong(String message) {
        wrong++;
        System.out.println(test + ": " + message);
    }

    void end() {
        System.out.println(test + ": " + (looked - wrong) + " of " + looked + " answers are as due");
        if (wrong > 0) {
            System.exit(1);
        }
    }
}
