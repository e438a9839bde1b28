/** Promise 4: begin. */
final class Promise04 {
    private Promise04() {
    }

    /** Task 0 is in this state, and blocks the task 1, which is open. */
    private static TicketForge blockedByOneIn(char state) {
        TicketForge plan = Plans.open(2);
        plan.block(0, 1);
        Plans.bring(plan, 0, state);
        return plan;
    }

    /** The tasks 0 and 1 block the task 2, and these many of them are done. */
    private static TicketForge blockedByTwo(int done) {
        TicketForge plan = Plans.open(3);
        plan.block(0, 2);
        plan.block(1, 2);
        for (int i = 0; i < done; i++) {
            Plans.beginAndEnd(plan, i);
        }
        return plan;
    }

    private static TicketForge inWorkBlockedSince() {
        TicketForge plan = Plans.open(2);
        plan.begin(1);
        plan.block(0, 1);
        return plan;
    }

    static void theFirstIsOneInWork() {
        Check.same("begin(0)", Plans.open(1).begin(0), 1);
        Check.same("begin(15)", Plans.open(16).begin(15), 1);
    }

    static void the16thIs16InWork() {
        TicketForge plan = Plans.open(16);
        for (int i = 0; i < 16; i++) {
            Check.same("begin(" + i + ")", plan.begin(i), i + 1);
        }
    }

    static void onlyTasksInWorkAreCounted() {
        TicketForge plan = Plans.open(5);
        Plans.bring(plan, 0, 'w');
        Plans.bring(plan, 1, 'r');
        Plans.bring(plan, 2, 'd');
        Check.same("begin(3)", plan.begin(3), 2);
    }

    static void itIsInWorkThen() {
        Check.same("state(0)", Plans.taskIn('w').state(0), 'w');
    }

    static void noSuchTaskIsRefused() {
        Edge.noSuchTask((plan, number) -> plan.begin(number));
    }

    static void aTaskThatIsNotOpenIsRefused() {
        Edge.refused("one in work", Plans.STATE, () -> Plans.taskIn('w'), plan -> plan.begin(0));
        Edge.refused("one in review", Plans.STATE, () -> Plans.taskIn('r'), plan -> plan.begin(0));
        Edge.refused("one that is done", Plans.STATE, () -> Plans.taskIn('d'), plan -> plan.begin(0));
        Edge.refused("one reopened", Plans.STATE, Promise04::reopened, plan -> plan.begin(0));
    }

    private static TicketForge reopened() {
        TicketForge plan = Plans.taskIn('d');
        plan.reopen(0);
        return plan;
    }

    static void aBlockThatIsNotDoneIsRefused() {
        Edge.refused("by one open", Plans.UNSUPPORTED, () -> blockedByOneIn('o'), plan -> plan.begin(1));
        Edge.refused("by one in work", Plans.UNSUPPORTED, () -> blockedByOneIn('w'), plan -> plan.begin(1));
        Edge.refused("by one in review", Plans.UNSUPPORTED, () -> blockedByOneIn('r'), plan -> plan.begin(1));
    }

    static void aBlockThatIsDoneIsNoHindrance() {
        Check.same("begin(1)", blockedByOneIn('d').begin(1), 1);
    }

    static void aBlockThatIsReopenedIsRefused() {
        Edge.refused("by one reopened", Plans.UNSUPPORTED, Promise04::blockedByOneReopened, plan -> plan.begin(1));
    }

    private static TicketForge blockedByOneReopened() {
        TicketForge plan = blockedByOneIn('d');
        plan.reopen(0);
        return plan;
    }

    static void allBlocksMustBeDone() {
        Edge.refused("none of two", Plans.UNSUPPORTED, () -> blockedByTwo(0), plan -> plan.begin(2));
        Edge.refused("one of two", Plans.UNSUPPORTED, () -> blockedByTwo(1), plan -> plan.begin(2));
        Check.same("both", blockedByTwo(2).begin(2), 1);
    }

    static void fifteenBlocksMustBeDone() {
        Edge.refused("14 of 15", Plans.UNSUPPORTED, () -> blockedByFifteen(14), plan -> plan.begin(0));
        Check.same("15 of 15", blockedByFifteen(15).begin(0), 1);
    }

    private static TicketForge blockedByFifteen(int done) {
        TicketForge plan = Plans.open(16);
        for (int i = 1; i < 16; i++) {
            plan.block(i, 0);
        }
        for (int i = 1; i <= done; i++) {
            Plans.beginAndEnd(plan, i);
        }
        return plan;
    }

    static void theTaskThatBlocksIsNotBlocked() {
        Check.same("begin(0)", blockedByOneIn('o').begin(0), 1);
    }

    static void onlyDirectBlocksCount() {
        TicketForge plan = Plans.open(3);
        plan.block(1, 2);
        Plans.beginAndEnd(plan, 1);
        plan.block(0, 1);
        Check.same("0 is open, 1 is done", plan.begin(2), 1);
    }

    static void parentsAndChildrenAreNoHindrance() {
        Check.same("a child of an open one", Plans.chain(2).begin(1), 1);
        Check.same("a parent of an open one", Plans.chain(2).begin(0), 1);
    }

    static void noSuchTaskComesAheadOfBlocks() {
        Edge.refused("begin(3)", Plans.INDEX, () -> blockedByTwo(0), plan -> plan.begin(3));
    }

    static void theStateComesAheadOfBlocks() {
        Edge.refused("blocked in work", Plans.STATE, Promise04::inWorkBlockedSince, plan -> plan.begin(1));
    }
}
