import java.util.function.Supplier;

/** Promise 12: canBegin. */
final class Promise12 {
    private Promise12() {
    }

    /** The answer is this one, and begin does what it says; the question changes nothing. */
    private static void same(String what, Supplier<TicketForge> plans, int task, boolean due) {
        Check.same(what, plans.get().canBegin(task), due);
        Check.same("begin of " + what, Check.thrownBy(() -> plans.get().begin(task)).equals("nothing"), due);
        TicketForge asked = plans.get();
        asked.canBegin(task);
        Check.same("what stands after " + what, Probe.BRANCHES.of(asked), Probe.BRANCHES.of(plans.get()));
    }

    private static TicketForge blockedByOneIn(char state) {
        TicketForge plan = Plans.open(2);
        plan.block(0, 1);
        Plans.bring(plan, 0, state);
        return plan;
    }

    static void onlyAnOpenTaskCan() {
        same("an open one", () -> Plans.taskIn('o'), 0, true);
        same("one in work", () -> Plans.taskIn('w'), 0, false);
        same("one in review", () -> Plans.taskIn('r'), 0, false);
        same("one that is done", () -> Plans.taskIn('d'), 0, false);
    }

    static void aBlockThatIsNotDoneHinders() {
        same("by one open", () -> blockedByOneIn('o'), 1, false);
        same("by one in work", () -> blockedByOneIn('w'), 1, false);
        same("by one in review", () -> blockedByOneIn('r'), 1, false);
        same("by one that is done", () -> blockedByOneIn('d'), 1, true);
    }

    static void allBlocksMustBeDone() {
        same("one of two", () -> blockedByTwo(1), 2, false);
        same("both of two", () -> blockedByTwo(2), 2, true);
    }

    private static TicketForge blockedByTwo(int done) {
        TicketForge plan = Plans.open(3);
        plan.block(0, 2);
        plan.block(1, 2);
        for (int i = 0; i < done; i++) {
            Plans.beginAndEnd(plan, 1 - i);
        }
        return plan;
    }

    static void onlyDirectBlocksHinder() {
        same("0 blocks 1, which is done", Promise12::blockedByOthersAlone, 2, true);
    }

    private static TicketForge blockedByOthersAlone() {
        TicketForge plan = Plans.open(3);
        plan.block(1, 2);
        Plans.beginAndEnd(plan, 1);
        plan.block(0, 1);
        return plan;
    }

    static void theLastOf16Can() {
        same("task 15", () -> Plans.open(16), 15, true);
        same("task 15, blocked", Plans::full, 15, false);
        same("task 13", Plans::full, 13, true);
    }

    static void noSuchTaskIsRefused() {
        Edge.noSuchTask((plan, number) -> plan.canBegin(number));
    }
}
