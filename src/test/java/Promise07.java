/** Promise 7: merge. */
final class Promise07 {
    private Promise07() {
    }

    /** Task 0 is in review; its child, the task 1, is in this state. */
    private static TicketForge withChildIn(char state) {
        TicketForge plan = Plans.chain(2);
        Plans.bring(plan, 0, 'r');
        Plans.bring(plan, 1, state);
        return plan;
    }

    /** Task 0 is in review and has 15 children, of which the first ones are done. */
    private static TicketForge withFifteenChildren(int done) {
        TicketForge plan = Plans.taskIn('r');
        for (int i = 1; i < 16; i++) {
            plan.addTask(0, 5, 0);
        }
        for (int i = 1; i <= done; i++) {
            Plans.beginAndEnd(plan, i);
        }
        return plan;
    }

    static void theFirstIsOneDone() {
        Check.same("merge(0)", Plans.taskIn('r').merge(0), 1);
    }

    static void the16thIs16Done() {
        TicketForge plan = Plans.chain(16);
        for (int i = 15; i >= 0; i--) {
            Plans.bring(plan, i, 'r');
            Check.same("merge(" + i + ")", plan.merge(i), 16 - i);
        }
    }

    static void onlyTasksThatAreDoneAreCounted() {
        TicketForge plan = Plans.open(5);
        Plans.bring(plan, 0, 'w');
        Plans.bring(plan, 1, 'r');
        Plans.bring(plan, 2, 'd');
        Plans.bring(plan, 3, 'r');
        Check.same("merge(3)", plan.merge(3), 2);
    }

    static void itIsDoneThen() {
        Check.same("state(0)", Plans.taskIn('d').state(0), 'd');
    }

    static void noSuchTaskIsRefused() {
        Edge.noSuchTask((plan, number) -> plan.merge(number));
    }

    static void aTaskThatIsNotInReviewIsRefused() {
        Edge.refused("an open one", Plans.STATE, () -> Plans.taskIn('o'), plan -> plan.merge(0));
        Edge.refused("one in work", Plans.STATE, () -> Plans.taskIn('w'), plan -> plan.merge(0));
        Edge.refused("one that is done", Plans.STATE, () -> Plans.taskIn('d'), plan -> plan.merge(0));
    }

    static void aChildThatIsNotDoneIsRefused() {
        Edge.refused("an open child", Plans.UNSUPPORTED, () -> withChildIn('o'), plan -> plan.merge(0));
        Edge.refused("a child in work", Plans.UNSUPPORTED, () -> withChildIn('w'), plan -> plan.merge(0));
        Edge.refused("a child in review", Plans.UNSUPPORTED, () -> withChildIn('r'), plan -> plan.merge(0));
    }

    static void aChildThatIsDoneIsNoHindrance() {
        Check.same("merge(0)", withChildIn('d').merge(0), 2);
    }

    static void aChildThatIsReopenedIsRefused() {
        Edge.refused("a reopened child", Plans.UNSUPPORTED, Promise07::withChildReopened, plan -> plan.merge(0));
    }

    private static TicketForge withChildReopened() {
        TicketForge plan = withChildIn('d');
        plan.reopen(1);
        return plan;
    }

    static void allChildrenMustBeDone() {
        Edge.refused("none of 15", Plans.UNSUPPORTED, () -> withFifteenChildren(0), plan -> plan.merge(0));
        Edge.refused("14 of 15", Plans.UNSUPPORTED, () -> withFifteenChildren(14), plan -> plan.merge(0));
        Check.same("15 of 15", withFifteenChildren(15).merge(0), 16);
    }

    static void aTaskIsMergedAheadOfItsParent() {
        Check.same("merge(1)", withChildIn('r').merge(1), 1);
    }

    static void blocksAreNoHindrance() {
        TicketForge plan = Plans.taskIn('r');
        plan.addTask(-1, 5, 0);
        plan.block(1, 0);
        Check.same("merge(0)", plan.merge(0), 1);
    }

    static void theStateComesAheadOfChildren() {
        Edge.refused("open, with an open child", Plans.STATE, () -> Plans.chain(2), plan -> plan.merge(0));
        Edge.refused("in work, with an open child", Plans.STATE, Promise07::inWorkWithChild, plan -> plan.merge(0));
    }

    private static TicketForge inWorkWithChild() {
        TicketForge plan = Plans.chain(2);
        plan.begin(0);
        return plan;
    }
}
