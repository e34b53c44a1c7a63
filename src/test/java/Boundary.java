import java.util.function.Supplier;

/** Rows of numbers beside those that the document allows, which many methods refuse alike. */
final class Boundary {
    static final Class<IndexOutOfBoundsException> NO_SUCH = IndexOutOfBoundsException.class;
    static final Class<IllegalArgumentException> WRONG = IllegalArgumentException.class;
    static final Class<UnsupportedOperationException> CANNOT = UnsupportedOperationException.class;
    static final Class<IllegalStateException> STATE = IllegalStateException.class;
    static final Class<java.util.NoSuchElementException> NONE = java.util.NoSuchElementException.class;

    /** The numbers at which an int wraps around, alone or when it is doubled or multiplied by the levels of a stack. */
    static final int[] FAR = {Integer.MIN_VALUE, Integer.MIN_VALUE + 1, -(1 << 30), -1000, 1 << 8, 1 << 16, 1 << 30,
        Integer.MAX_VALUE - 1, Integer.MAX_VALUE};

    private final Check check;

    Boundary(Check check) {
        this.check = check;
    }

    interface CallWithNumber {
        Object on(Quaylock yard, int number);
    }

    /** "If there is no such box in the yard": below 0, not yet come, one that has left, one that can never come. */
    void boxesNotInTheYard(String what, CallWithNumber call) {
        notInTheYard(what + ", no box has come", Quaylock::new, call, -1, 0, 1, 19, 20);
        notInTheYard(what + ", it has left or not yet come", Scenes::oneHasLeft, call, -1, 3, 4, 5, 19, 20, 21);
        notInTheYard(what + ", 8 boxes are in the yard", Scenes::eightBoxes, call, -1, 8, 9);
        notInTheYard(what + ", 20 boxes have come", Scenes::twentyHaveCome, call, -1, 0, 18, 20, 21);
        notInTheYard(what + ", 20 boxes have left", Scenes::twentyHaveLeft, call, -1, 0, 19, 20);
        notInTheYard(what + ", far away", Scenes::oneHasLeft, call, FAR);
    }

    private void notInTheYard(String what, Supplier<Quaylock> scene, CallWithNumber call, int... boxes) {
        for (int box : boxes) {
            check.refused(what + ": box " + box, scene, x -> call.on(x, box), NO_SUCH);
        }
    }

    /** "If there is no such stack": below 0 and from the number of stacks on, for each number of stacks. */
    void stacksThatAreNot(String what, CallWithNumber call) {
        String[] reaches = {"", "4", "4 4", "4 4 4", "4 4 4 4"};
        for (int stacks = 0; stacks < reaches.length; stacks++) {
            String made = reaches[stacks];
            String boxes = stacks == 0 ? "" : "5@0";
            for (int stack : new int[] {-1, stacks, stacks + 1, 4}) {
                check.refused(what + ": stack " + stack + " of " + stacks, () -> Scenes.yard(made, boxes),
                        x -> call.on(x, stack), NO_SUCH);
            }
        }
        for (int stack : FAR) {
            check.refused(what + ": stack " + stack, Scenes::four, x -> call.on(x, stack), NO_SUCH);
        }
    }

    /** "If there is no such lane": below 0 and behind lane 2. */
    void lanesThatAreNot(String what, CallWithNumber call) {
        for (int lane : new int[] {-1, 3, 4}) {
            check.refused(what + ": lane " + lane, Scenes::four, x -> call.on(x, lane), NO_SUCH);
        }
        for (int lane : FAR) {
            check.refused(what + ": lane " + lane, Scenes::four, x -> call.on(x, lane), NO_SUCH);
        }
    }

    /** "If there is no such appointment": below 0, not yet booked, one that can never be booked. */
    void appointmentsThatAreNot(String what, CallWithNumber call) {
        for (int appointment : new int[] {-1, 0, 1, 29, 30}) {
            check.refused(what + ", none was booked: appointment " + appointment, Scenes::four,
                    x -> call.on(x, appointment), NO_SUCH);
        }
        for (int appointment : new int[] {-1, 1, 2, 29, 30}) {
            check.refused(what + ", one was booked: appointment " + appointment, Scenes::oneBooked,
                    x -> call.on(x, appointment), NO_SUCH);
        }
        for (int appointment : new int[] {-1, 30, 31}) {
            check.refused(what + ", 30 were booked: appointment " + appointment, Scenes::thirtyBooked,
                    x -> call.on(x, appointment), NO_SUCH);
        }
        for (int appointment : FAR) {
            check.refused(what + ": appointment " + appointment, Scenes::oneBooked, x -> call.on(x, appointment),
                    NO_SUCH);
        }
    }
}
