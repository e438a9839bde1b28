/** Promise 5: propose. */
final class Promise05 {
    private Promise05() {
    }

    static void theFirstIsOneInReview() {
        Check.same("propose(0)", Plans.taskIn('w').propose(0), 1);
    }

    static void the16thIs16InReview() {
        TicketForge plan = Plans.open(16);
        for (int i = 0; i < 16; i++) {
            plan.begin(i);
        }
        for (int i = 0; i < 16; i++) {
            Check.same("propose(" + i + ")", plan.propose(i), i + 1);
        }
    }

    static void onlyTasksInReviewAreCounted() {
        TicketForge plan = Plans.open(5);
        Plans.bring(plan, 0, 'w');
        Plans.bring(plan, 1, 'r');
        Plans.bring(plan, 2, 'd');
        Plans.bring(plan, 3, 'w');
        Check.same("propose(3)", plan.propose(3), 2);
    }

    static void itIsInReviewThen() {
        Check.same("state(0)", Plans.taskIn('r').state(0), 'r');
    }

    static void noSuchTaskIsRefused() {
        Edge.noSuchTask((plan, number) -> plan.propose(number));
    }

    static void aTaskThatIsNotInWorkIsRefused() {
        Edge.refused("an open one", Plans.STATE, () -> Plans.taskIn('o'), plan -> plan.propose(0));
        Edge.refused("one in review", Plans.STATE, () -> Plans.taskIn('r'), plan -> plan.propose(0));
        Edge.refused("one that is done", Plans.STATE, () -> Plans.taskIn('d'), plan -> plan.propose(0));
    }

    static void oneRejectedOrReopenedIsTaken() {
        TicketForge rejected = Plans.taskIn('r');
        rejected.reject(0);
        Check.same("one rejected", rejected.propose(0), 1);
        TicketForge reopened = Plans.taskIn('d');
        reopened.reopen(0);
        Check.same("one reopened", reopened.propose(0), 1);
    }

    static void blocksAndChildrenAreNoHindrance() {
        TicketForge plan = Plans.chain(2);
        plan.begin(0);
        plan.block(1, 0);
        Check.same("propose(0)", plan.propose(0), 1);
    }
}
