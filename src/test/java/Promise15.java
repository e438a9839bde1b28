/** Promise 15: approve. */
final class Promise15 {
    private Promise15() {
    }

    static void theFirstIsItsOwnHours() {
        Check.same("approve(0)", Plans.entryIn('n').approve(0), 5);
    }

    static void the60thIsTheHoursOfAll() {
        TicketForge plan = Plans.oneInWork();
        for (int i = 0; i < 60; i++) {
            plan.note(0, i % 4, 29, 40);
        }
        for (int i = 59; i >= 0; i--) {
            Check.same("approve(" + i + ")", plan.approve(i), 40 * (60 - i));
        }
    }

    static void hoursOfAllTasksAndPersonsCount() {
        TicketForge plan = Plans.open(2);
        plan.begin(0);
        plan.begin(1);
        plan.note(0, 0, 3, 1);
        plan.note(1, 3, 3, 2);
        plan.approve(0);
        Check.same("approve(1)", plan.approve(1), 3);
    }

    static void onlyItsWeekCounts() {
        TicketForge plan = Plans.oneInWork();
        int[] weeks = {2, 4, 0, 29, 3};
        for (int week : weeks) {
            plan.note(0, 0, week, 7);
        }
        for (int i = 0; i < 5; i++) {
            Check.same("approve(" + i + ")", plan.approve(i), 7);
        }
    }

    static void onlyApprovedEntriesCount() {
        char[] states = {'n', 'b', 'c', 'x'};
        for (char state : states) {
            Check.same("beside one in " + state, besideOneIn(state).approve(1), 3);
        }
        TicketForge approved = Plans.entryIn('a');
        approved.note(0, 1, 0, 3);
        Check.same("beside one in a", approved.approve(1), 8);
    }

    /** Entry 0 in this state, and entry 1, of 3 hours in the same week, noted. */
    private static TicketForge besideOneIn(char state) {
        if (state == 'x') {
            return besideOneOverTheCap();
        }
        TicketForge plan = Plans.entryIn(state);
        plan.addTask(-1, 5, 0);
        plan.begin(1);
        plan.note(1, 1, 0, 3);
        return plan;
    }

    private static TicketForge besideOneOverTheCap() {
        TicketForge plan = Plans.entryIn('a');
        plan.setCap(4);
        Plans.end(plan, 0);
        plan.invoice(0, 0);
        Check.same("over the cap", plan.entryState(0), 'x');
        plan.reopen(0);
        plan.note(0, 1, 0, 3);
        return plan;
    }

    static void itIsApprovedThen() {
        Check.same("entryState(0)", Plans.entryIn('a').entryState(0), 'a');
    }

    static void theTasksStateIsNoHindrance() {
        TicketForge plan = Plans.entryIn('n');
        Plans.end(plan, 0);
        Check.same("of a task that is done", plan.approve(0), 5);
    }

    static void theFirstAndTheLastWeekAreTaken() {
        TicketForge plan = Plans.oneInWork();
        plan.note(0, 0, 0, 4);
        plan.note(0, 0, 29, 6);
        Check.same("week 29", plan.approve(1), 6);
        Check.same("week 0", plan.approve(0), 4);
    }

    static void noSuchEntryIsRefused() {
        Edge.noSuchEntry((plan, number) -> plan.approve(number));
    }

    static void anEntryThatIsNotNotedIsRefused() {
        Edge.refused("approved", Plans.STATE, () -> Plans.entryIn('a'), plan -> plan.approve(0));
        Edge.refused("billed", Plans.STATE, () -> Plans.entryIn('b'), plan -> plan.approve(0));
        Edge.refused("credited", Plans.STATE, () -> Plans.entryIn('c'), plan -> plan.approve(0));
        Edge.refused("over the cap", Plans.STATE, Promise15::besideOneOverTheCap, plan -> plan.approve(0));
    }

    /** The state comes ahead of the week, and no noted entry is left in a locked week. */
    static void anEntryOfALockedWeekIsRefused() {
        Edge.refused("not billable", Plans.STATE, () -> Plans.entryIn('x'), plan -> plan.approve(0));
        Edge.refused("approved", Plans.STATE, Promise15::approvedThenLocked, plan -> plan.approve(0));
    }

    private static TicketForge approvedThenLocked() {
        TicketForge plan = Plans.entryIn('a');
        plan.lock(0);
        return plan;
    }

    /** No run of calls leads here: see Inside. */
    static void aNotedEntryOfALockedWeekIsRefused() {
        Edge.refused("noted", Plans.UNSUPPORTED, Promise15::notedInALockedWeek, plan -> plan.approve(0));
    }

    private static TicketForge notedInALockedWeek() {
        TicketForge plan = Plans.entryIn('n');
        Inside.lockWithoutDroppingEntries(plan, 0);
        return plan;
    }

    static void theWeeksBesideALockedOneAreTaken() {
        TicketForge plan = Plans.oneInWork();
        plan.note(0, 0, 2, 4);
        plan.note(0, 0, 4, 6);
        plan.lock(3);
        Check.same("week 2", plan.approve(0), 4);
        Check.same("week 4", plan.approve(1), 6);
    }
}
