import java.util.NoSuchElementException;

/** A container yard: stacks of boxes, customs holds, digging plans and the lanes of a gate. */
public final class Quaylock {
    private static final int MAX_STACKS = 4;
    private static final int MAX_REACH = 4;
    private static final int MAX_BOXES = 20;
    private static final int MAX_BOXES_IN_YARD = 8;
    private static final int MAX_WEIGHT = 30;
    private static final int MAX_APPOINTMENTS = 30;
    private static final int LANES = 3;
    private static final int LAST_HOUR = 999;
    private static final int FOR_GOOD = 1000;
    private static final int MOST_HOURS_A_PASS = 24;

    /** Stands for no stack, no box, no appointment and no plan alike. */
    private static final int NONE = -1;

    private static final char PINNED = 'p';
    private static final char LOCKED = 'l';
    private static final char NO_HOLD = '-';

    private static final char NOT_AT_TOP = 't';
    private static final char IS_PINNED = 'p';
    private static final char SAME_STACK = 's';
    private static final char STACK_FULL = 'f';
    private static final char TOP_LIGHTER = 'w';
    private static final char NO_REASON = '-';

    private static final char BOOKED = 'b';
    private static final char DONE = 'd';
    private static final char MISSED = 'm';
    private static final char GIVEN_BACK = 'g';
    private static final char CANCELLED = 'c';

    private final Cargo cargo;
    private final Yard yard;
    private final Planner planner;
    private final Gate gate;
    private int hour;
    private int movesMade;
    private long weightGone;

    public Quaylock() {
        Cargo newCargo = new Cargo();
        Yard newYard = new Yard(newCargo);
        cargo = newCargo;
        yard = newYard;
        planner = new Planner(newYard, new Yard(newCargo));
        gate = new Gate();
    }

    public int addStack(int reach) throws IllegalArgumentException, IllegalStateException {
        if (reach < 1 || reach > MAX_REACH) {
            throw new IllegalArgumentException("the reach is not between 1 and 4");
        }
        if (yard.stackCount() >= MAX_STACKS) {
            throw new IllegalStateException("there are 4 stacks");
        }
        return yard.openStack(reach);
    }

    public int addBox(int weight, int stack)
            throws IndexOutOfBoundsException, IllegalArgumentException, UnsupportedOperationException,
            IllegalStateException {
        requireStack(stack);
        if (weight < 1 || weight > MAX_WEIGHT) {
            throw new IllegalArgumentException("the weight is not between 1 and 30");
        }
        if (yard.isFull(stack) || !yard.bears(stack, weight)) {
            throw new UnsupportedOperationException("the box cannot be put onto the stack");
        }
        if (yard.boxCount() >= MAX_BOXES_IN_YARD || cargo.come() >= MAX_BOXES) {
            throw new IllegalStateException("8 boxes are in the yard, or 20 have come");
        }
        int box = cargo.register(weight);
        yard.put(box, stack);
        return box;
    }

    public int boxes() {
        return yard.boxCount();
    }

    public boolean isInYard(int box) {
        return yard.stackWith(box) != NONE;
    }

    public int weight(int box) throws IndexOutOfBoundsException {
        requireBox(box);
        return cargo.weightOf(box);
    }

    public int stackOf(int box) throws IndexOutOfBoundsException {
        requireBox(box);
        return yard.stackWith(box);
    }

    public int level(int box) throws IndexOutOfBoundsException {
        requireBox(box);
        return yard.boxesUnder(box);
    }

    public int above(int box) throws IndexOutOfBoundsException {
        requireBox(box);
        return yard.boxesOver(box);
    }

    public int height(int stack) throws IndexOutOfBoundsException {
        requireStack(stack);
        return yard.heightOf(stack);
    }

    public int boxAt(int stack, int level) throws IndexOutOfBoundsException, NoSuchElementException {
        requireStack(stack);
        int box = yard.boxOn(stack, level);
        if (box == NONE) {
            throw new NoSuchElementException("there is no box at this level");
        }
        return box;
    }

    public int hold(int box, char kind, int until) throws IndexOutOfBoundsException, IllegalArgumentException {
        requireBox(box);
        if (kind != PINNED && kind != LOCKED) {
            throw new IllegalArgumentException("there is no such kind of hold");
        }
        if (until <= hour || until > FOR_GOOD) {
            throw new IllegalArgumentException("the hour is not behind this one and at most 1000");
        }
        cargo.putHold(box, kind, until);
        return giveBackIfHeld(box) ? 1 : 0;
    }

    public int release(int box) throws IndexOutOfBoundsException, IllegalStateException {
        requireBox(box);
        if (!cargo.isHeld(box)) {
            throw new IllegalStateException("the box has no hold");
        }
        int until = cargo.holdEnd(box);
        cargo.endHold(box);
        return until;
    }

    public char holdOf(int box) throws IndexOutOfBoundsException {
        requireBox(box);
        return cargo.holdKind(box);
    }

    public int heldUntil(int box) throws IndexOutOfBoundsException, NoSuchElementException {
        requireBox(box);
        if (!cargo.isHeld(box)) {
            throw new NoSuchElementException("the box has no hold");
        }
        return cargo.holdEnd(box);
    }

    public int pinnedAbove(int box) throws IndexOutOfBoundsException {
        requireBox(box);
        return yard.pinnedOver(box);
    }

    public char why(int box, int stack) throws IndexOutOfBoundsException {
        requireBox(box);
        requireStack(stack);
        return yard.reasonAgainst(box, stack);
    }

    public int move(int box, int stack) throws IndexOutOfBoundsException, UnsupportedOperationException {
        requireBox(box);
        requireStack(stack);
        if (yard.reasonAgainst(box, stack) != NO_REASON) {
            throw new UnsupportedOperationException("the box cannot be moved there");
        }
        makeMove(box, stack);
        return movesMade;
    }

    public int planLength(int box) throws IndexOutOfBoundsException, NoSuchElementException {
        requirePlan(box);
        return planner.length();
    }

    public int planByTrying(int box) throws IndexOutOfBoundsException, NoSuchElementException {
        requireBox(box);
        int length = planner.lengthByTrying(box);
        if (length == NONE) {
            throw new NoSuchElementException("there is no plan");
        }
        return length;
    }

    public int planBox(int box, int index) throws IndexOutOfBoundsException, NoSuchElementException {
        requirePlan(box);
        requirePlannedMove(index);
        return planner.boxMoved(index);
    }

    public int planStack(int box, int index) throws IndexOutOfBoundsException, NoSuchElementException {
        requirePlan(box);
        requirePlannedMove(index);
        return planner.stackReached(index);
    }

    public int dig(int box) throws IndexOutOfBoundsException, NoSuchElementException {
        requirePlan(box);
        makePlannedMoves();
        return planner.length();
    }

    public int moves() {
        return movesMade;
    }

    public int book(int box, int hour, int lane)
            throws IndexOutOfBoundsException, IllegalArgumentException, UnsupportedOperationException,
            IllegalStateException {
        requireBox(box);
        requireLane(lane);
        if (hour <= this.hour || hour > LAST_HOUR) {
            throw new IllegalArgumentException("the hour is not behind this one, or greater than 999");
        }
        if (cargo.isHeldIn(box, hour)) {
            throw new UnsupportedOperationException("the box has a hold that lasts in this hour");
        }
        if (gate.bookedFor(box) != NONE || gate.bookedAt(lane, hour) != NONE) {
            throw new IllegalStateException("the box has an appointment, or the lane has one for the hour");
        }
        if (gate.count() >= MAX_APPOINTMENTS) {
            throw new IllegalStateException("30 appointments have been booked");
        }
        return gate.register(box, hour, lane);
    }

    public int cancel(int appointment) throws IndexOutOfBoundsException, IllegalStateException {
        requireAppointment(appointment);
        if (gate.state(appointment) != BOOKED) {
            throw new IllegalStateException("the appointment is not booked");
        }
        gate.turn(appointment, CANCELLED);
        return gate.countIn(BOOKED);
    }

    public char stateOf(int appointment) throws IndexOutOfBoundsException {
        requireAppointment(appointment);
        return gate.state(appointment);
    }

    public int appointmentOf(int box) throws IndexOutOfBoundsException, NoSuchElementException {
        requireBox(box);
        int appointment = gate.bookedFor(box);
        if (appointment == NONE) {
            throw new NoSuchElementException("the box has no booked appointment");
        }
        return appointment;
    }

    public int inLane(int lane, int hour) throws IndexOutOfBoundsException, IllegalArgumentException {
        requireLane(lane);
        if (hour < 0 || hour > LAST_HOUR) {
            throw new IllegalArgumentException("the hour is not between 0 and 999");
        }
        return gate.bookedAt(lane, hour);
    }

    public int firstHour(int box) throws IndexOutOfBoundsException, NoSuchElementException {
        requireBox(box);
        for (int later = hour + 1; later <= LAST_HOUR; later++) {
            if (!cargo.isHeldIn(box, later) && gate.hasFreeLane(later)) {
                return later;
            }
        }
        throw new NoSuchElementException("there is no such hour up to 999");
    }

    public int pass(int hours) throws IllegalArgumentException {
        if (hours < 1 || hours > MOST_HOURS_A_PASS || hours > LAST_HOUR - hour) {
            throw new IllegalArgumentException("the hours are not between 1 and 24, or go beyond 999");
        }
        int leaving = 0;
        for (int i = 0; i < hours; i++) {
            hour++;
            cargo.endHoldsOf(hour);
            for (int lane = 0; lane < LANES; lane++) {
                leaving += serve(gate.bookedAt(lane, hour));
            }
        }
        return leaving;
    }

    public int now() {
        return hour;
    }

    public long weightLeft() {
        return weightGone;
    }

    public float doneShare() throws NoSuchElementException {
        int done = gate.countIn(DONE);
        int ended = done + gate.countIn(MISSED) + gate.countIn(GIVEN_BACK);
        if (ended == 0) {
            throw new NoSuchElementException("no appointment is done, missed or given back");
        }
        return (float) done / (float) ended;
    }

    private void requireStack(int stack) {
        if (!yard.hasStack(stack)) {
            throw new IndexOutOfBoundsException("there is no such stack");
        }
    }

    private void requireBox(int box) {
        if (yard.stackWith(box) == NONE) {
            throw new IndexOutOfBoundsException("there is no such box in the yard");
        }
    }

    private void requireLane(int lane) {
        if (lane < 0 || lane >= LANES) {
            throw new IndexOutOfBoundsException("there is no such lane");
        }
    }

    private void requireAppointment(int appointment) {
        if (appointment < 0 || appointment >= gate.count()) {
            throw new IndexOutOfBoundsException("there is no such appointment");
        }
    }

    private void requirePlan(int box) {
        requireBox(box);
        if (!planner.find(box)) {
            throw new NoSuchElementException("there is no plan");
        }
    }

    private void requirePlannedMove(int index) {
        if (index < 0 || index >= planner.length()) {
            throw new NoSuchElementException("the plan has no such move");
        }
    }

    private void makeMove(int box, int stack) {
        yard.shift(yard.stackWith(box), stack);
        movesMade++;
    }

    private void makePlannedMoves() {
        for (int i = 0; i < planner.length(); i++) {
            makeMove(planner.boxMoved(i), planner.stackReached(i));
        }
    }

    private boolean giveBackIfHeld(int box) {
        int appointment = gate.bookedFor(box);
        if (appointment == NONE || !cargo.isHeldIn(box, gate.hourOf(appointment))) {
            return false;
        }
        gate.turn(appointment, GIVEN_BACK);
        return true;
    }

    /** Returns how many boxes leave by this, which is one or none. */
    private int serve(int appointment) {
        if (appointment == NONE) {
            return 0;
        }
        int box = gate.boxOf(appointment);
        if (cargo.isHeld(box) || !planner.find(box)) {
            gate.turn(appointment, MISSED);
            return 0;
        }
        makePlannedMoves();
        yard.take(yard.stackWith(box));
        weightGone += cargo.weightOf(box);
        gate.turn(appointment, DONE);
        return 1;
    }

    /** The weights and holds of all boxes that have come; the yard and its trial copy share one. */
    private static final class Cargo {
        private final int[] weights = new int[MAX_BOXES];
        private final char[] holdKinds = new char[MAX_BOXES];
        private final int[] holdEnds = new int[MAX_BOXES];
        private int come;

        int come() {
            return come;
        }

        int register(int weight) {
            if (come >= MAX_BOXES) {
                return NONE;
            }
            int box = come;
            come++;
            weights[box] = weight;
            endHold(box);
            return box;
        }

        int weightOf(int box) {
            return box >= 0 && box < come ? weights[box] : 0;
        }

        char holdKind(int box) {
            return box >= 0 && box < come ? holdKinds[box] : NO_HOLD;
        }

        int holdEnd(int box) {
            return box >= 0 && box < come ? holdEnds[box] : 0;
        }

        boolean isHeld(int box) {
            return holdKind(box) != NO_HOLD;
        }

        boolean isPinned(int box) {
            return holdKind(box) == PINNED;
        }

        boolean isHeldIn(int box, int hour) {
            return isHeld(box) && hour < holdEnd(box);
        }

        void putHold(int box, char kind, int until) {
            if (box >= 0 && box < come) {
                holdKinds[box] = kind;
                holdEnds[box] = until;
            }
        }

        void endHold(int box) {
            putHold(box, NO_HOLD, 0);
        }

        void endHoldsOf(int hour) {
            for (int box = 0; box < come; box++) {
                if (isHeld(box) && holdEnd(box) == hour) {
                    endHold(box);
                }
            }
        }
    }

    /** The stacks and the boxes in them. */
    private static final class Yard {
        private final Cargo cargo;
        private final int[] reaches = new int[MAX_STACKS];
        private final int[] heights = new int[MAX_STACKS];
        private final int[] places = new int[MAX_STACKS * MAX_REACH];
        private final int[] stacksOfBoxes = new int[MAX_BOXES];
        private int stackCount;
        private int boxCount;

        Yard(Cargo cargo) {
            this.cargo = cargo;
            for (int box = 0; box < MAX_BOXES; box++) {
                stacksOfBoxes[box] = NONE;
            }
        }

        void copyFrom(Yard other) {
            System.arraycopy(other.reaches, 0, reaches, 0, MAX_STACKS);
            System.arraycopy(other.heights, 0, heights, 0, MAX_STACKS);
            System.arraycopy(other.places, 0, places, 0, MAX_STACKS * MAX_REACH);
            System.arraycopy(other.stacksOfBoxes, 0, stacksOfBoxes, 0, MAX_BOXES);
            stackCount = other.stackCount;
            boxCount = other.boxCount;
        }

        int openStack(int reach) {
            if (stackCount >= MAX_STACKS) {
                return NONE;
            }
            int stack = stackCount;
            stackCount++;
            reaches[stack] = reach;
            return stack;
        }

        int stackCount() {
            return stackCount;
        }

        int boxCount() {
            return boxCount;
        }

        boolean hasStack(int stack) {
            return stack >= 0 && stack < stackCount;
        }

        int heightOf(int stack) {
            return stack >= 0 && stack < stackCount ? heights[stack] : 0;
        }

        boolean isFull(int stack) {
            return stack < 0 || stack >= stackCount || heights[stack] >= reaches[stack];
        }

        /** Asks for the weight alone: `why` tells a full stack and a lighter top apart. */
        boolean bears(int stack, int weight) {
            int top = topOf(stack);
            return top == NONE || cargo.weightOf(top) >= weight;
        }

        int stackWith(int box) {
            return box >= 0 && box < MAX_BOXES ? stacksOfBoxes[box] : NONE;
        }

        int boxOn(int stack, int level) {
            if (level < 0 || level >= heightOf(stack)) {
                return NONE;
            }
            return places[stack * MAX_REACH + level];
        }

        int topOf(int stack) {
            if (stack < 0 || stack >= stackCount || heights[stack] == 0) {
                return NONE;
            }
            return places[stack * MAX_REACH + heights[stack] - 1];
        }

        int boxesUnder(int box) {
            int stack = stackWith(box);
            int level = 0;
            while (level < heightOf(stack) && boxOn(stack, level) != box) {
                level++;
            }
            return level;
        }

        int boxesOver(int box) {
            int stack = stackWith(box);
            return stack == NONE ? 0 : heightOf(stack) - 1 - boxesUnder(box);
        }

        int pinnedOver(int box) {
            int stack = stackWith(box);
            int pinned = 0;
            for (int level = boxesUnder(box) + 1; level < heightOf(stack); level++) {
                if (cargo.isPinned(boxOn(stack, level))) {
                    pinned++;
                }
            }
            return pinned;
        }

        char reasonAgainst(int box, int stack) {
            int from = stackWith(box);
            if (from == NONE || topOf(from) != box) {
                return NOT_AT_TOP;
            }
            if (cargo.isPinned(box)) {
                return IS_PINNED;
            }
            if (from == stack) {
                return SAME_STACK;
            }
            if (isFull(stack)) {
                return STACK_FULL;
            }
            return bears(stack, cargo.weightOf(box)) ? NO_REASON : TOP_LIGHTER;
        }

        void put(int box, int stack) {
            if (box < 0 || box >= MAX_BOXES || isFull(stack)) {
                return;
            }
            places[stack * MAX_REACH + heights[stack]] = box;
            heights[stack]++;
            stacksOfBoxes[box] = stack;
            boxCount++;
        }

        void take(int stack) {
            int box = topOf(stack);
            if (box == NONE) {
                return;
            }
            heights[stack]--;
            stacksOfBoxes[box] = NONE;
            boxCount--;
        }

        void shift(int from, int to) {
            int box = topOf(from);
            if (box == NONE || from == to || isFull(to)) {
                return;
            }
            take(from);
            put(box, to);
        }
    }

    /**
     * Finds the plan for a box. A plan that has been begun is one long: from the high bits to the low ones the number
     * of moves that it will need at least, its moves in their order, and how many they are. So the smaller of two
     * longs is the one to look at first, and the first of them that has dug the box out is the plan.
     */
    private static final class Planner {
        private static final int LENGTH_BITS = 3;
        private static final int STACK_BITS = 2;
        private static final int MOVE_BITS = 7;
        /** One more than the three boxes that can stand above another. */
        private static final int MAX_MOVES = MAX_REACH;
        private static final int MOVES_BITS = MAX_MOVES * MOVE_BITS;

        private final Yard yard;
        private final Yard trial;
        private final Heap open = new Heap();
        private long found;

        Planner(Yard yard, Yard trial) {
            this.yard = yard;
            this.trial = trial;
        }

        boolean find(int box) {
            int over = yard.boxesOver(box);
            open.clear();
            open.add(begunWith(over));
            for (int looks = 0; looks < Heap.ROOM && !open.isEmpty(); looks++) {
                long begun = open.takeFirst();
                if (needOf(begun) == lengthOf(begun)) {
                    found = begun;
                    return true;
                }
                layOut(begun);
                addNextMoves(begun, box, over + 1);
            }
            return false;
        }

        int length() {
            return lengthOf(found);
        }

        int boxMoved(int index) {
            return moveOf(found, index) >> STACK_BITS;
        }

        int stackReached(int index) {
            return moveOf(found, index) & ((1 << STACK_BITS) - 1);
        }

        int lengthByTrying(int box) {
            trial.copyFrom(yard);
            return fewestMoves(trial, box, trial.boxesOver(box) + 1);
        }

        /** Leaves the yard as it was; movesLeft bounds the depth. */
        private static int fewestMoves(Yard yard, int box, int movesLeft) {
            int over = yard.boxesOver(box);
            if (over == 0) {
                return 0;
            }
            // A move uncovers at most one box, so no plan that counts goes on from here.
            if (over > movesLeft) {
                return NONE;
            }
            int fewest = NONE;
            for (int from = 0; from < yard.stackCount(); from++) {
                int top = yard.topOf(from);
                for (int to = 0; to < yard.stackCount(); to++) {
                    if (yard.reasonAgainst(top, to) != NO_REASON) {
                        continue;
                    }
                    yard.shift(from, to);
                    int rest = fewestMoves(yard, box, movesLeft - 1);
                    yard.shift(to, from);
                    if (rest != NONE && (fewest == NONE || rest + 1 < fewest)) {
                        fewest = rest + 1;
                    }
                }
            }
            return fewest;
        }

        private void layOut(long begun) {
            trial.copyFrom(yard);
            for (int i = 0; i < lengthOf(begun); i++) {
                int move = moveOf(begun, i);
                trial.shift(trial.stackWith(move >> STACK_BITS), move & ((1 << STACK_BITS) - 1));
            }
        }

        private void addNextMoves(long begun, int box, int limit) {
            int home = trial.stackWith(box);
            for (int from = 0; from < trial.stackCount(); from++) {
                int top = trial.topOf(from);
                for (int to = 0; to < trial.stackCount(); to++) {
                    int need = needOf(begun) + extraNeed(from, to, home);
                    if (need <= limit && trial.reasonAgainst(top, to) == NO_REASON) {
                        open.add(goneOn(begun, need, top, to));
                    }
                }
            }
        }

        /** A move from the stack of the box is one that had to come; one onto it has to be made again. */
        private static int extraNeed(int from, int to, int home) {
            if (from == home) {
                return 0;
            }
            return to == home ? 2 : 1;
        }

        private static long begunWith(int need) {
            return (long) need << (MOVES_BITS + LENGTH_BITS);
        }

        private static long goneOn(long begun, int need, int box, int stack) {
            int length = lengthOf(begun);
            long move = ((long) box << STACK_BITS) | stack;
            long sameMoves = begun - begunWith(needOf(begun)) - length;
            return begunWith(need) | sameMoves | (move << shiftOf(length)) | (length + 1);
        }

        private static int needOf(long begun) {
            return (int) (begun >> (MOVES_BITS + LENGTH_BITS));
        }

        private static int lengthOf(long begun) {
            return (int) begun & ((1 << LENGTH_BITS) - 1);
        }

        private static int moveOf(long begun, int index) {
            return (int) (begun >> shiftOf(index)) & ((1 << MOVE_BITS) - 1);
        }

        private static int shiftOf(int index) {
            return LENGTH_BITS + (MAX_MOVES - 1 - index) * MOVE_BITS;
        }
    }

    /** Gives back the smallest of its longs first. */
    private static final class Heap {
        /**
         * A plan that counts has at most one move that does not dig. With 3 stacks to dig to and 6 other moves
         * between those, that makes 1 + 3 + 9 + 27 begun plans without such a move and 690 with one.
         */
        static final int ROOM = 1024;

        private final long[] items = new long[ROOM];
        private int size;

        boolean isEmpty() {
            return size == 0;
        }

        void clear() {
            size = 0;
        }

        void add(long item) {
            if (size >= ROOM) {
                return;
            }
            int at = size;
            size++;
            while (at > 0 && items[(at - 1) / 2] > item) {
                items[at] = items[(at - 1) / 2];
                at = (at - 1) / 2;
            }
            items[at] = item;
        }

        long takeFirst() {
            if (size == 0) {
                return 0;
            }
            long first = items[0];
            size--;
            sinkFromTop(items[size]);
            return first;
        }

        private void sinkFromTop(long item) {
            int at = 0;
            int child = 1;
            while (child < size) {
                if (child + 1 < size && items[child + 1] < items[child]) {
                    child++;
                }
                if (items[child] >= item) {
                    break;
                }
                items[at] = items[child];
                at = child;
                child = 2 * at + 1;
            }
            items[at] = item;
        }
    }

    /** The appointments in the order in which they were booked. */
    private static final class Gate {
        private final int[] boxesOf = new int[MAX_APPOINTMENTS];
        private final int[] hours = new int[MAX_APPOINTMENTS];
        private final int[] lanes = new int[MAX_APPOINTMENTS];
        private final char[] states = new char[MAX_APPOINTMENTS];
        private int count;

        int count() {
            return count;
        }

        int register(int box, int hour, int lane) {
            if (count >= MAX_APPOINTMENTS) {
                return NONE;
            }
            int appointment = count;
            count++;
            boxesOf[appointment] = box;
            hours[appointment] = hour;
            lanes[appointment] = lane;
            states[appointment] = BOOKED;
            return appointment;
        }

        private boolean has(int appointment) {
            return appointment >= 0 && appointment < count;
        }

        int boxOf(int appointment) {
            return has(appointment) ? boxesOf[appointment] : NONE;
        }

        int hourOf(int appointment) {
            return has(appointment) ? hours[appointment] : NONE;
        }

        char state(int appointment) {
            return has(appointment) ? states[appointment] : CANCELLED;
        }

        void turn(int appointment, char state) {
            if (has(appointment)) {
                states[appointment] = state;
            }
        }

        int bookedFor(int box) {
            for (int i = 0; i < count; i++) {
                if (states[i] == BOOKED && boxesOf[i] == box) {
                    return i;
                }
            }
            return NONE;
        }

        int bookedAt(int lane, int hour) {
            for (int i = 0; i < count; i++) {
                if (states[i] == BOOKED && lanes[i] == lane && hours[i] == hour) {
                    return i;
                }
            }
            return NONE;
        }

        boolean hasFreeLane(int hour) {
            for (int lane = 0; lane < LANES; lane++) {
                if (bookedAt(lane, hour) == NONE) {
                    return true;
                }
            }
            return false;
        }

        int countIn(char state) {
            int counted = 0;
            for (int i = 0; i < count; i++) {
                if (states[i] == state) {
                    counted++;
                }
            }
            return counted;
        }
    }
}
