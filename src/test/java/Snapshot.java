import java.util.function.Supplier;

/** All that a yard tells of itself, in some 250 calls at most: a scene may have used as many of the 512 before. */
final class Snapshot {
    private static final int STACKS = 4;
    private static final int LEVELS = 4;
    private static final int BOXES = 20;
    private static final int APPOINTMENTS = 30;
    private static final int LANES = 3;

    private final StringBuilder text = new StringBuilder();

    private Snapshot() {
    }

    static String of(Quaylock yard) {
        Snapshot snapshot = new Snapshot();
        snapshot.tellWhole(yard);
        for (int stack = 0; stack < STACKS; stack++) {
            snapshot.tellStack(yard, stack);
        }
        for (int box = 0; box < BOXES; box++) {
            if (yard.isInYard(box)) {
                snapshot.tellBox(yard, box);
            }
        }
        for (int i = 0; i < APPOINTMENTS; i++) {
            int appointment = i;
            snapshot.tell("stateOf " + i, () -> yard.stateOf(appointment));
        }
        int now = yard.now();
        for (int hour = now; hour < now + 8; hour++) {
            snapshot.tellHour(yard, hour);
        }
        snapshot.tellNextNumbers(yard);
        return snapshot.text.toString();
    }

    /** What happens up to the last hour: so an appointment or a hold that is far away shows itself too. */
    static String ofHoursToCome(Quaylock yard) {
        Snapshot snapshot = new Snapshot();
        for (int i = 0; i < 30; i++) {
            snapshot.tellPass(yard, 1);
        }
        for (int i = 0; i < 41; i++) {
            snapshot.tellPass(yard, 24);
        }
        for (int i = 0; i < 24; i++) {
            snapshot.tellPass(yard, 1);
        }
        for (int i = 0; i < APPOINTMENTS; i++) {
            int appointment = i;
            snapshot.tell("stateOf " + i, () -> yard.stateOf(appointment));
        }
        snapshot.tellWhole(yard);
        return snapshot.text.toString();
    }

    private void tellPass(Quaylock yard, int hours) {
        tell("pass " + hours, () -> yard.pass(hours));
        tell("moves then", yard::moves);
    }

    private void tellWhole(Quaylock yard) {
        tell("boxes", yard::boxes);
        tell("moves", yard::moves);
        tell("now", yard::now);
        tell("weightLeft", yard::weightLeft);
        tell("doneShare", yard::doneShare);
    }

    private void tellStack(Quaylock yard, int stack) {
        tell("height " + stack, () -> yard.height(stack));
        for (int i = 0; i < LEVELS; i++) {
            int level = i;
            tell("boxAt " + stack + " " + level, () -> yard.boxAt(stack, level));
        }
    }

    private void tellBox(Quaylock yard, int box) {
        tell("weight " + box, () -> yard.weight(box));
        tell("stackOf " + box, () -> yard.stackOf(box));
        tell("level " + box, () -> yard.level(box));
        tell("holdOf " + box, () -> yard.holdOf(box));
        tell("heldUntil " + box, () -> yard.heldUntil(box));
        tell("appointmentOf " + box, () -> yard.appointmentOf(box));
        tell("firstHour " + box, () -> yard.firstHour(box));
        tell("planLength " + box, () -> yard.planLength(box));
        tell("planBox " + box, () -> yard.planBox(box, 0));
        tell("planStack " + box, () -> yard.planStack(box, 0));
        for (int i = 0; i < STACKS; i++) {
            int stack = i;
            tell("why " + box + " " + stack, () -> yard.why(box, stack));
        }
    }

    private void tellHour(Quaylock yard, int hour) {
        for (int i = 0; i < LANES; i++) {
            int lane = i;
            tell("inLane " + lane + " " + hour, () -> yard.inLane(lane, hour));
        }
    }

    /** These change the yard, so they come last. */
    private void tellNextNumbers(Quaylock yard) {
        int box = 0;
        while (box < BOXES - 1 && !yard.isInYard(box)) {
            box++;
        }
        int booked = box;
        tell("book", () -> yard.book(booked, 999, 0));
        tell("addStack", () -> yard.addStack(4));
        for (int i = 0; i < STACKS * LEVELS; i++) {
            int stack = i / LEVELS;
            tell("addBox 1 " + stack, () -> yard.addBox(1, stack));
        }
    }

    private void tell(String what, Supplier<Object> answer) {
        text.append(what).append(" = ");
        try {
            text.append(answer.get());
        } catch (RuntimeException e) {
            text.append(e.getClass().getName());
        }
        text.append('\n');
    }
}
