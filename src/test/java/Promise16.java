/** Promise 16: lock. */
final class Promise16 {
    private Promise16() {
    }

    private static TicketForge locked(int week) {
        TicketForge plan = Plans.entryIn('n');
        plan.lock(week);
        return plan;
    }

    private static TicketForge allLocked() {
        TicketForge plan = Plans.entryIn('n');
        for (int week = 0; week < 30; week++) {
            plan.lock(week);
        }
        return plan;
    }

    static void aWeekWithoutEntriesIs0() {
        Check.same("lock(0) of a new plan", new TicketForge().lock(0), 0);
        Check.same("lock(1)", Plans.entryIn('n').lock(1), 0);
    }

    static void aNotedEntryIsNotBillable() {
        TicketForge plan = Plans.entryIn('n');
        Check.same("lock(0)", plan.lock(0), 1);
        Check.same("entryState(0)", plan.entryState(0), 'x');
    }

    static void sixtyNotedEntriesAre60() {
        TicketForge plan = Plans.oneInWork();
        for (int i = 0; i < 60; i++) {
            plan.note(0, i % 4, 29, 1);
        }
        Check.same("lock(29)", plan.lock(29), 60);
        Check.same("entryState(0)", plan.entryState(0), 'x');
        Check.same("entryState(59)", plan.entryState(59), 'x');
    }

    static void entriesThatAreNotNotedStay() {
        char[] states = {'a', 'b', 'c'};
        for (char state : states) {
            TicketForge plan = Plans.entryIn(state);
            Check.same("lock(0), with one in " + state, plan.lock(0), 0);
            Check.same("entryState(0)", plan.entryState(0), state);
        }
    }

    static void anEntryThatIsNotBillableAlreadyIsNotCounted() {
        TicketForge plan = Plans.entryIn('a');
        plan.setCap(0);
        Plans.end(plan, 0);
        plan.invoice(0, 0);
        Check.same("lock(0)", plan.lock(0), 0);
        Check.same("entryState(0)", plan.entryState(0), 'x');
    }

    static void entriesOfOtherWeeksStay() {
        TicketForge plan = Plans.oneInWork();
        int[] weeks = {0, 2, 3, 4, 29};
        for (int week : weeks) {
            plan.note(0, 0, week, 1);
        }
        Check.same("lock(3)", plan.lock(3), 1);
        StringBuilder states = new StringBuilder();
        for (int i = 0; i < 5; i++) {
            states.append(plan.entryState(i));
        }
        Check.same("the states", states.toString(), "nnxnn");
    }

    static void theFirstAndTheLastWeekAreLocked() {
        Check.same("lock(29)", locked(0).lock(29), 0);
        Check.same("lock(0)", locked(29).lock(0), 1);
        Edge.refused("note in week 0", Plans.UNSUPPORTED, () -> locked(0), plan -> plan.note(0, 0, 0, 1));
        Edge.refused("note in week 29", Plans.UNSUPPORTED, () -> locked(29), plan -> plan.note(0, 0, 29, 1));
    }

    static void allWeeksAreLocked() {
        for (int each = 0; each < 30; each++) {
            int week = each;
            Edge.refused("lock(" + week + ")", Plans.STATE, Promise16::allLocked, plan -> plan.lock(week));
        }
    }

    static void noSuchWeekIsRefused() {
        Edge.noSuchWeek(() -> Plans.entryIn('n'), (plan, week) -> plan.lock(week));
    }

    static void noSuchWeekIsRefusedWhenAllAreLocked() {
        Edge.noSuchWeek(Promise16::allLocked, (plan, week) -> plan.lock(week));
    }

    static void aLockedWeekIsRefused() {
        Edge.refused("lock(0)", Plans.STATE, () -> locked(0), plan -> plan.lock(0));
        Edge.refused("lock(29)", Plans.STATE, () -> locked(29), plan -> plan.lock(29));
    }

    static void theWeeksBesideALockedOneAreNotLocked() {
        Check.same("lock(2)", locked(3).lock(2), 0);
        Check.same("lock(4)", locked(3).lock(4), 0);
    }

    static void approvedEntriesOfALockedWeekAreBilled() {
        TicketForge plan = Plans.entryIn('a');
        plan.lock(0);
        Plans.end(plan, 0);
        plan.invoice(0, 0);
        Check.same("entryState(0)", plan.entryState(0), 'b');
    }
}
