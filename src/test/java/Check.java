import java.util.Arrays;
import java.util.function.Supplier;

/** Counts what a test looks at; prints what is not as it is due. */
final class Check {
    private final String test;
    private int looked;
    private int wrong;

    Check(String test) {
        this.test = test;
    }

    interface Call {
        Object on(Quaylock yard);
    }

    void same(String what, Object got, Object due) {
        looked++;
        if (!due.equals(got)) {
            wrong(what + " answered " + got + ", due is " + due);
        }
    }

    /**
     * Looks whether the call throws exactly this exception and changes nothing: one yard of two that are made alike
     * gets the call, and then both must answer everything alike.
     */
    void refused(String what, Supplier<Quaylock> scene, Call call, Class<? extends RuntimeException> due) {
        same(what, outcome(scene.get(), call), due.getName());
        unchanged(what, scene, call);
    }

    /** The same for a call that answers, but must change nothing. */
    void onlyTells(String what, Supplier<Quaylock> scene, Call call, Object due) {
        same(what, outcome(scene.get(), call), due);
        unchanged(what, scene, call);
    }

    /** An exception counts with its exact class: one below it would be another answer. */
    private static Object outcome(Quaylock yard, Call call) {
        try {
            return call.on(yard);
        } catch (RuntimeException e) {
            return e.getClass().getName();
        }
    }

    private void unchanged(String what, Supplier<Quaylock> scene, Call call) {
        alike(what, () -> {
            Quaylock asked = scene.get();
            outcome(asked, call);
            return asked;
        }, scene);
    }

    /** Both must answer alike now and in all hours that come. Each look uses a yard up, so it is made for each. */
    void alike(String what, Supplier<Quaylock> asked, Supplier<Quaylock> due) {
        sameLines(what + ", the yard after it", Snapshot.of(asked.get()), Snapshot.of(due.get()));
        sameLines(what + ", the hours after it", Snapshot.ofHoursToCome(asked.get()),
                Snapshot.ofHoursToCome(due.get()));
    }

    /** Prints no more than the first answer in which the two differ. */
    private void sameLines(String what, String gotText, String dueText) {
        String[] got = gotText.split("\n");
        String[] due = dueText.split("\n");
        int differing = Arrays.mismatch(got, due);
        if (differing < 0) {
            looked++;
        } else {
            same(what, line(got, differing), line(due, differing));
        }
    }

    private static String line(String[] lines, int index) {
        return index < lines.length ? lines[index] : "nothing more";
    }

    private void wrong(String message) {
        wrong++;
        System.out.println(test + ": " + message);
    }

    void end() {
        System.out.println(test + ": " + (looked - wrong) + " of " + looked + " answers are as due");
        if (wrong > 0) {
            System.exit(1);
        }
    }
}
