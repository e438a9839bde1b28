/** Promise 6: reject. */
final class Promise06 {
    private Promise06() {
    }

    static void theLastIsNoneInReview() {
        Check.same("reject(0)", Plans.taskIn('r').reject(0), 0);
    }

    static void oneOf16Is15InReview() {
        TicketForge plan = Plans.open(16);
        for (int i = 0; i < 16; i++) {
            Plans.bring(plan, i, 'r');
        }
        for (int i = 0; i < 16; i++) {
            Check.same("reject(" + i + ")", plan.reject(i), 15 - i);
        }
    }

    static void onlyTasksInReviewAreCounted() {
        TicketForge plan = Plans.open(5);
        Plans.bring(plan, 0, 'w');
        Plans.bring(plan, 1, 'r');
        Plans.bring(plan, 2, 'd');
        Plans.bring(plan, 3, 'r');
        Check.same("reject(3)", plan.reject(3), 1);
    }

    static void itIsInWorkThen() {
        TicketForge plan = Plans.taskIn('r');
        plan.reject(0);
        Check.same("state(0)", plan.state(0), 'w');
    }

    static void noSuchTaskIsRefused() {
        Edge.noSuchTask((plan, number) -> plan.reject(number));
    }

    static void aTaskThatIsNotInReviewIsRefused() {
        Edge.refused("an open one", Plans.STATE, () -> Plans.taskIn('o'), plan -> plan.reject(0));
        Edge.refused("one in work", Plans.STATE, () -> Plans.taskIn('w'), plan -> plan.reject(0));
        Edge.refused("one that is done", Plans.STATE, () -> Plans.taskIn('d'), plan -> plan.reject(0));
    }

    static void blocksAreNoHindrance() {
        TicketForge plan = Plans.taskIn('r');
        plan.addTask(-1, 5, 0);
        plan.block(1, 0);
        Check.same("reject(0)", plan.reject(0), 0);
    }
}
