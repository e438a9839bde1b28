/** Promise 2: addTask. */
final class Promise02 {
    private Promise02() {
    }

    private static TicketForge underDone() {
        return Plans.taskIn('d');
    }

    private static TicketForge sixteenTheFirstDone() {
        TicketForge plan = Plans.open(16);
        Plans.beginAndEnd(plan, 0);
        return plan;
    }

    private static void addsTheTaskOfNumber(int due, TicketForge plan, int parent) {
        Check.same("addTask under " + parent, plan.addTask(parent, 5, 0), due);
        Check.same("tasks()", plan.tasks(), due + 1);
    }

    static void theFirstTaskIsNumber0() {
        addsTheTaskOfNumber(0, new TicketForge(), -1);
    }

    static void theSecondTaskIsNumber1() {
        addsTheTaskOfNumber(1, Plans.open(1), -1);
    }

    static void the16thTaskIsTaken() {
        addsTheTaskOfNumber(15, Plans.open(15), -1);
        addsTheTaskOfNumber(15, Plans.chain(15), 14);
    }

    static void a17thTaskIsRefused() {
        Edge.refused("a 17th task", Plans.STATE, () -> Plans.open(16), plan -> plan.addTask(-1, 5, 0));
        Edge.refused("a 17th task in a chain", Plans.STATE, () -> Plans.chain(16), plan -> plan.addTask(15, 5, 0));
        Edge.refused("a 17th task in a full plan", Plans.STATE, Plans::full, plan -> plan.addTask(-1, 5, 0));
    }

    static void aTaskThatIsDoneCountsForThe16() {
        Edge.refused("a 17th task", Plans.STATE, Promise02::sixteenTheFirstDone, plan -> plan.addTask(-1, 5, 0));
    }

    static void aTaskIsOpenAtFirst() {
        TicketForge plan = Plans.taskIn('w');
        plan.addTask(-1, 5, 0);
        plan.addTask(0, 5, 0);
        Check.same("the state of one without a parent", plan.state(1), 'o');
        Check.same("the state of one with a parent", plan.state(2), 'o');
    }

    static void parentMinus1IsNoParent() {
        Edge.refused("parent(0)", Plans.NO_SUCH, () -> Plans.open(1), plan -> plan.parent(0));
    }

    static void parent0IsAParent() {
        TicketForge plan = Plans.open(1);
        plan.addTask(0, 5, 0);
        Check.same("parent(1)", plan.parent(1), 0);
    }

    static void theLastTaskIsAParent() {
        TicketForge plan = Plans.open(15);
        plan.addTask(14, 5, 0);
        Check.same("parent(15)", plan.parent(15), 14);
    }

    static void parentMinus2IsRefused() {
        Edge.refused("parent -2", Plans.INDEX, TicketForge::new, plan -> plan.addTask(-2, 5, 0));
        Edge.refused("parent -2", Plans.INDEX, () -> Plans.open(3), plan -> plan.addTask(-2, 5, 0));
    }

    static void parent0OfNoneIsRefused() {
        Edge.refused("parent 0", Plans.INDEX, TicketForge::new, plan -> plan.addTask(0, 5, 0));
    }

    static void aTaskIsNotItsOwnParent() {
        Edge.refused("parent 3 of the task 3", Plans.INDEX, () -> Plans.open(3), plan -> plan.addTask(3, 5, 0));
    }

    static void noSuchParentIsRefused() {
        Edge.outside("parent", Plans.INDEX, -1, 2, () -> Plans.open(3), (plan, number) -> plan.addTask(number, 5, 0));
    }

    static void anEstimateOf1IsTaken() {
        TicketForge plan = new TicketForge();
        plan.addTask(-1, 1, 0);
        Check.same("left(0)", plan.left(0), 1);
    }

    static void anEstimateOf400IsTaken() {
        TicketForge plan = new TicketForge();
        plan.addTask(-1, 400, 0);
        Check.same("left(0)", plan.left(0), 400);
    }

    static void anEstimateOutsideIsRefused() {
        Edge.outside("estimate", Plans.ARGUMENT, 1, 400, () -> Plans.open(2),
            (plan, estimate) -> plan.addTask(-1, estimate, 0));
        Edge.outside("estimate of a child", Plans.ARGUMENT, 1, 400, () -> Plans.open(2),
            (plan, estimate) -> plan.addTask(1, estimate, 400));
    }

    static void aBudgetOf0IsNoBudget() {
        TicketForge plan = new TicketForge();
        plan.addTask(-1, 1, 0);
        Edge.refused("room(0)", Plans.NO_SUCH, () -> Plans.open(1), each -> each.room(0));
        plan.begin(0);
        Check.same("40 hours", plan.note(0, 0, 0, 40), 0);
    }

    static void aBudgetOf1IsTaken() {
        TicketForge plan = new TicketForge();
        plan.addTask(-1, 5, 1);
        Check.same("room(0)", plan.room(0), 1);
    }

    static void aBudgetOf400IsTaken() {
        TicketForge plan = new TicketForge();
        plan.addTask(-1, 5, 400);
        Check.same("room(0)", plan.room(0), 400);
    }

    static void aBudgetMayBeLessOrMoreThanTheEstimate() {
        TicketForge plan = new TicketForge();
        Check.same("less", plan.addTask(-1, 400, 1), 0);
        Check.same("more", plan.addTask(-1, 1, 400), 1);
        Check.same("more than its parent's", plan.addTask(0, 1, 400), 2);
    }

    static void aBudgetOutsideIsRefused() {
        Edge.outside("budget", Plans.ARGUMENT, 0, 400, () -> Plans.open(2),
            (plan, budget) -> plan.addTask(-1, 5, budget));
        Edge.outside("budget of a child", Plans.ARGUMENT, 0, 400, () -> Plans.open(2),
            (plan, budget) -> plan.addTask(0, 400, budget));
    }

    static void estimateAndBudgetOutsideAreRefused() {
        Edge.refused("both", Plans.ARGUMENT, TicketForge::new, plan -> plan.addTask(-1, 0, -1));
        Edge.refused("both", Plans.ARGUMENT, TicketForge::new, plan -> plan.addTask(-1, 401, 401));
    }

    static void aParentThatIsDoneIsRefused() {
        Edge.refused("a parent that is done", Plans.UNSUPPORTED, Promise02::underDone, plan -> plan.addTask(0, 5, 0));
    }

    static void aParentThatIsNotDoneIsTaken() {
        addsTheTaskOfNumber(1, Plans.taskIn('o'), 0);
        addsTheTaskOfNumber(1, Plans.taskIn('w'), 0);
        addsTheTaskOfNumber(1, Plans.taskIn('r'), 0);
    }

    static void aParentThatIsReopenedIsTaken() {
        TicketForge plan = Plans.taskIn('d');
        plan.reopen(0);
        addsTheTaskOfNumber(1, plan, 0);
    }

    static void anotherTaskThatIsDoneIsNoHindrance() {
        addsTheTaskOfNumber(1, Plans.taskIn('d'), -1);
    }

    static void theParentComesAheadOfTheRange() {
        Edge.refused("parent and estimate", Plans.INDEX, () -> Plans.open(2), plan -> plan.addTask(2, 0, 0));
        Edge.refused("parent and budget", Plans.INDEX, () -> Plans.open(2), plan -> plan.addTask(-2, 5, 401));
    }

    static void theParentComesAheadOf16Tasks() {
        Edge.refused("parent 16", Plans.INDEX, () -> Plans.open(16), plan -> plan.addTask(16, 5, 0));
        Edge.refused("parent -2", Plans.INDEX, () -> Plans.open(16), plan -> plan.addTask(-2, 5, 0));
    }

    static void theRangeComesAheadOf16Tasks() {
        Edge.refused("estimate 0", Plans.ARGUMENT, () -> Plans.open(16), plan -> plan.addTask(-1, 0, 0));
        Edge.refused("budget 401", Plans.ARGUMENT, () -> Plans.open(16), plan -> plan.addTask(0, 5, 401));
    }

    static void theRangeComesAheadOfAParentThatIsDone() {
        Edge.refused("estimate 401", Plans.ARGUMENT, Promise02::underDone, plan -> plan.addTask(0, 401, 0));
        Edge.refused("budget -1", Plans.ARGUMENT, Promise02::underDone, plan -> plan.addTask(0, 5, -1));
    }

    static void sixteenTasksComeAheadOfAParentThatIsDone() {
        Edge.refused("a 17th task", Plans.STATE, Promise02::sixteenTheFirstDone, plan -> plan.addTask(0, 5, 0));
    }
}
