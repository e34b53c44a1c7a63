/** The example of README.md, line by line, with the answers that stand in its comments. */
public final class ReadmeTest {
    private static final Check CHECK = new Check("ReadmeTest");

    public static void main(String[] args) {
        Quaylock yard = new Quaylock();
        int stack = yard.addStack(3);
        yard.addStack(3);
        int lower = yard.addBox(9, stack);
        int upper = yard.addBox(5, stack);
        CHECK.same("planLength", yard.planLength(lower), 1);
        CHECK.same("planBox", yard.planBox(lower, 0), upper);
        CHECK.same("planStack", yard.planStack(lower, 0), 1);
        int appointment = yard.book(lower, 2, 0);
        CHECK.same("hold", yard.hold(upper, 'l', 10), 0);
        CHECK.same("why", yard.why(upper, 1), '-');
        CHECK.same("pass", yard.pass(2), 1);
        CHECK.same("stateOf", yard.stateOf(appointment), 'd');
        CHECK.same("stackOf", yard.stackOf(upper), 1);
        CHECK.same("moves", yard.moves(), 1);
        CHECK.same("firstHour", yard.firstHour(upper), 10);
        CHECK.same("weightLeft", yard.weightLeft(), 9L);
        CHECK.same("doneShare", yard.doneShare(), 1.0f);
        CHECK.end();
    }
}
