/** Promise 19: entries. */
final class Promise19 {
    private Promise19() {
    }

    static void aNewPlanHas0() {
        Check.same("entries()", new TicketForge().entries(), 0);
        Check.same("entries(), with a task", Plans.oneInWork().entries(), 0);
    }

    static void aFullPlanHas60() {
        TicketForge plan = Plans.oneInWork();
        for (int i = 1; i <= 60; i++) {
            plan.note(0, 0, 0, 1);
            Check.same("entries()", plan.entries(), i);
        }
    }

    static void aRefusedEntryIsNotCounted() {
        TicketForge plan = Plans.full();
        Check.thrownBy(() -> plan.note(0, 0, 0, 1));
        Check.same("entries()", plan.entries(), 60);
        TicketForge empty = Plans.oneInWork();
        Check.thrownBy(() -> empty.note(0, 0, 0, 41));
        Check.same("entries()", empty.entries(), 0);
    }

    static void entriesOfAllStatesAreCounted() {
        char[] states = {'n', 'a', 'b', 'c', 'x'};
        for (char state : states) {
            Check.same("entries(), one in " + state, Plans.entryIn(state).entries(), 1);
        }
    }
}
