/** Promise 32: left. */
final class Promise32 {
    private Promise32() {
    }

    /** A task in work with this estimate, and entries of these hours. */
    private static TicketForge noted(int estimate, int... hours) {
        TicketForge plan = new TicketForge();
        plan.addTask(-1, estimate, 0);
        plan.begin(0);
        for (int each : hours) {
            plan.note(0, 0, 0, each);
        }
        return plan;
    }

    static void withoutEntriesItIsTheEstimate() {
        Check.same("left(0) of 1", noted(1).left(0), 1);
        Check.same("left(0) of 400", noted(400).left(0), 400);
    }

    static void anHourLessThanTheEstimateLeaves1() {
        Check.same("left(0)", noted(40, 39).left(0), 1);
    }

    static void theEstimateLeaves0() {
        Check.same("left(0)", noted(40, 40).left(0), 0);
        Check.same("left(0) of 1", noted(1, 1).left(0), 0);
    }

    static void moreThanTheEstimateLeaves0() {
        Check.same("left(0)", noted(39, 40).left(0), 0);
        Check.same("left(0) of 1", noted(1, 40, 40).left(0), 0);
    }

    static void onlyItsOwnEntriesCount() {
        TicketForge plan = Plans.chain(3);
        plan.begin(1);
        plan.note(1, 0, 0, 4);
        Check.same("left(0), of its parent", plan.left(0), 10);
        Check.same("left(1)", plan.left(1), 6);
        Check.same("left(2), of its child", plan.left(2), 10);
    }

    static void entriesOfAllStatesCount() {
        char[] states = {'n', 'a', 'b', 'c', 'x'};
        for (char state : states) {
            Check.same("left(0), one in " + state, Plans.entryIn(state).left(0), 95);
        }
    }

    static void aTaskThatIsDoneHasItsRest() {
        Check.same("left(0)", Plans.taskIn('d').left(0), 10);
    }

    static void noSuchTaskIsRefused() {
        Edge.noSuchTask((plan, number) -> plan.left(number));
    }
}
