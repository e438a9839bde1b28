/** Promise 13: tasks. */
final class Promise13 {
    private Promise13() {
    }

    static void aNewPlanHas0() {
        Check.same("tasks()", new TicketForge().tasks(), 0);
    }

    static void aFullPlanHas16() {
        Check.same("tasks()", Plans.open(16).tasks(), 16);
        Check.same("tasks() of a chain", Plans.chain(16).tasks(), 16);
    }

    static void aRefusedTaskIsNotCounted() {
        TicketForge plan = Plans.open(16);
        Check.thrownBy(() -> plan.addTask(-1, 5, 0));
        Check.same("tasks()", plan.tasks(), 16);
        TicketForge empty = new TicketForge();
        Check.thrownBy(() -> empty.addTask(-1, 0, 0));
        Check.same("tasks()", empty.tasks(), 0);
    }

    static void aTaskThatIsDoneIsCounted() {
        Check.same("tasks()", Plans.taskIn('d').tasks(), 1);
    }
}
