/** Promise 14: note. */
final class Promise14 {
    private Promise14() {
    }

    /** One task in work, and this many entries of an hour. */
    private static TicketForge noted(int entries) {
        TicketForge plan = Plans.oneInWork();
        for (int i = 0; i < entries; i++) {
            plan.note(0, i % 4, i % 30, 1);
        }
        return plan;
    }

    /** One task in work with this budget, of which these hours are noted. */
    private static TicketForge budget(int budget, int hours) {
        TicketForge plan = new TicketForge();
        plan.addTask(-1, 5, budget);
        plan.begin(0);
        noteAll(plan, 0, hours);
        return plan;
    }

    private static void noteAll(TicketForge plan, int task, int hours) {
        for (int rest = hours; rest > 0; rest -= 40) {
            plan.note(task, 0, 0, Math.min(rest, 40));
        }
    }

    /** A chain in work; the task 0 has this budget, and the last one notes these hours of it. */
    private static TicketForge budgetOfTheRoot(int tasks, int budget, int hours) {
        TicketForge plan = new TicketForge();
        for (int i = 0; i < tasks; i++) {
            plan.addTask(i - 1, 5, i == 0 ? budget : 0);
            plan.begin(i);
        }
        noteAll(plan, tasks - 1, hours);
        return plan;
    }

    private static TicketForge lockedWeek3() {
        TicketForge plan = Plans.oneInWork();
        plan.lock(3);
        return plan;
    }

    private static void noteIsTaken(TicketForge plan, int task, int person, int week, int hours) {
        int hoursBefore = plan.hours(task);
        int due = plan.entries();
        Check.same("note", plan.note(task, person, week, hours), due);
        Check.same("entryState", plan.entryState(due), 'n');
        Check.same("hours", plan.hours(task), hoursBefore + hours);
    }

    static void theFirstEntryIsNumber0() {
        Check.same("note", Plans.oneInWork().note(0, 0, 0, 1), 0);
    }

    static void the60thEntryIsTaken() {
        TicketForge plan = noted(59);
        Check.same("note", plan.note(0, 3, 29, 40), 59);
        Check.same("entries()", plan.entries(), 60);
        Check.same("hours(0)", plan.hours(0), 99);
    }

    static void a61stEntryIsRefused() {
        Edge.refused("a 61st entry", Plans.STATE, () -> noted(60), plan -> plan.note(0, 0, 0, 1));
        Edge.refused("a 61st entry, in a full plan", Plans.STATE, Plans::full, plan -> plan.note(0, 0, 0, 1));
    }

    static void entriesOfAllTasksAndStatesCountForThe60() {
        Edge.refused("a 61st entry of another task", Plans.STATE, Promise14::sixtyAndAnotherTask,
            plan -> plan.note(1, 0, 29, 1));
    }

    private static TicketForge sixtyAndAnotherTask() {
        TicketForge plan = noted(60);
        plan.addTask(-1, 5, 0);
        plan.begin(1);
        plan.approve(0);
        plan.lock(1);
        Plans.end(plan, 0);
        plan.invoice(0, 0);
        return plan;
    }

    static void noSuchTaskIsRefused() {
        Edge.noSuchTask((plan, number) -> plan.note(number, 0, 0, 1));
    }

    static void theFirstAndTheLastPersonAreTaken() {
        noteIsTaken(Plans.oneInWork(), 0, 0, 7, 1);
        noteIsTaken(Plans.oneInWork(), 0, 3, 7, 1);
    }

    static void aPersonOutsideIsRefused() {
        Edge.outside("person", Plans.ARGUMENT, 0, 3, Plans::oneInWork, (plan, person) -> plan.note(0, person, 0, 1));
    }

    static void theFirstAndTheLastWeekAreTaken() {
        TicketForge plan = Plans.oneInWork();
        noteIsTaken(plan, 0, 1, 0, 1);
        noteIsTaken(plan, 0, 1, 29, 3);
        Check.same("pace(0)", plan.pace(0), 1 / 3.0f);
        Check.same("pace(29)", plan.pace(29), 1.0f);
    }

    static void aWeekOutsideIsRefused() {
        Edge.noSuchWeek(Plans::oneInWork, (plan, week) -> plan.note(0, 0, week, 1));
    }

    static void oneHourAnd40AreTaken() {
        noteIsTaken(Plans.oneInWork(), 0, 1, 2, 1);
        noteIsTaken(Plans.oneInWork(), 0, 1, 2, 40);
    }

    static void hoursOutsideAreRefused() {
        Edge.outside("hours", Plans.ARGUMENT, 1, 40, Plans::oneInWork, (plan, hours) -> plan.note(0, 0, 0, hours));
        Edge.outside("hours, with a budget", Plans.ARGUMENT, 1, 40, () -> budget(400, 400),
            (plan, hours) -> plan.note(0, 0, 0, hours));
    }

    static void aLockedWeekIsRefused() {
        Edge.refused("week 3", Plans.UNSUPPORTED, Promise14::lockedWeek3, plan -> plan.note(0, 0, 3, 1));
    }

    static void theFirstAndTheLastLockedWeekAreRefused() {
        int[] weeks = {0, 29};
        for (int week : weeks) {
            Edge.refused("week " + week, Plans.UNSUPPORTED, () -> locked(week), plan -> plan.note(0, 0, week, 1));
        }
        noteIsTaken(locked(0), 0, 0, 1, 1);
        noteIsTaken(locked(29), 0, 0, 28, 1);
    }

    private static TicketForge locked(int week) {
        TicketForge plan = Plans.oneInWork();
        plan.lock(week);
        return plan;
    }

    static void theWeeksBesideALockedOneAreTaken() {
        noteIsTaken(lockedWeek3(), 0, 0, 2, 1);
        noteIsTaken(lockedWeek3(), 0, 0, 4, 1);
    }

    static void anOpenTaskIsRefused() {
        Edge.refused("open", Plans.STATE, () -> Plans.taskIn('o'), plan -> plan.note(0, 0, 0, 1));
    }

    static void aTaskThatIsDoneIsRefused() {
        Edge.refused("done", Plans.STATE, () -> Plans.taskIn('d'), plan -> plan.note(0, 0, 0, 1));
    }

    static void aTaskInWorkOrInReviewIsTaken() {
        noteIsTaken(Plans.taskIn('w'), 0, 0, 0, 1);
        noteIsTaken(Plans.taskIn('r'), 0, 0, 0, 1);
    }

    static void aTaskReopenedIsTaken() {
        TicketForge plan = Plans.taskIn('d');
        plan.reopen(0);
        noteIsTaken(plan, 0, 0, 0, 1);
    }

    static void onlyTheTasksOwnStateCounts() {
        TicketForge child = Plans.chain(2);
        child.begin(1);
        noteIsTaken(child, 1, 0, 0, 1);
        TicketForge parent = Plans.chain(2);
        parent.begin(0);
        Plans.beginAndEnd(parent, 1);
        noteIsTaken(parent, 0, 0, 0, 1);
    }

    static void hoursUpToTheBudgetAreTaken() {
        noteIsTaken(budget(1, 0), 0, 0, 0, 1);
        noteIsTaken(budget(40, 0), 0, 0, 0, 40);
        noteIsTaken(budget(100, 99), 0, 0, 0, 1);
        noteIsTaken(budget(400, 360), 0, 0, 0, 40);
    }

    static void oneHourOverTheBudgetIsRefused() {
        Edge.refused("1 of 1", Plans.STATE, () -> budget(1, 0), plan -> plan.note(0, 0, 0, 2));
        Edge.refused("0 of 1", Plans.STATE, () -> budget(1, 1), plan -> plan.note(0, 0, 0, 1));
        Edge.refused("39 of 39", Plans.STATE, () -> budget(39, 0), plan -> plan.note(0, 0, 0, 40));
        Edge.refused("39 of 400", Plans.STATE, () -> budget(400, 361), plan -> plan.note(0, 0, 0, 40));
        Edge.refused("0 of 400", Plans.STATE, () -> budget(400, 400), plan -> plan.note(0, 0, 0, 1));
    }

    static void withoutABudgetAllHoursAreTaken() {
        TicketForge plan = Plans.oneInWork();
        for (int i = 0; i < 60; i++) {
            noteIsTaken(plan, 0, 0, 0, 40);
        }
        Check.same("hours(0)", plan.hours(0), 2400);
    }

    static void hoursUpToTheBudgetOfTheParentAreTaken() {
        noteIsTaken(budgetOfTheRoot(2, 50, 30), 1, 0, 0, 20);
        noteIsTaken(budgetOfTheRoot(2, 50, 30), 0, 0, 0, 20);
    }

    static void oneHourOverTheBudgetOfTheParentIsRefused() {
        Edge.refused("21 of 20", Plans.STATE, () -> budgetOfTheRoot(2, 50, 30), plan -> plan.note(1, 0, 0, 21));
        Edge.refused("21 of 20, its own", Plans.STATE, () -> budgetOfTheRoot(2, 50, 30),
            plan -> plan.note(0, 0, 0, 21));
    }

    static void theBudgetOfTheTopOf16Binds() {
        noteIsTaken(budgetOfTheRoot(16, 50, 30), 15, 0, 0, 20);
        Edge.refused("21 of 20", Plans.STATE, () -> budgetOfTheRoot(16, 50, 30), plan -> plan.note(15, 0, 0, 21));
        Edge.refused("21 of 20, by 7", Plans.STATE, () -> budgetOfTheRoot(16, 50, 30), plan -> plan.note(7, 0, 0, 21));
    }

    static void theLeastOfAllBudgetsBinds() {
        noteIsTaken(threeBudgets(), 2, 0, 0, 20);
        Edge.refused("21 of 20", Plans.STATE, Promise14::threeBudgets, plan -> plan.note(2, 0, 0, 21));
        noteIsTaken(threeBudgets(), 1, 0, 0, 20);
        Edge.refused("21 of 20, by 1", Plans.STATE, Promise14::threeBudgets, plan -> plan.note(1, 0, 0, 21));
        noteIsTaken(threeBudgets(), 0, 0, 0, 30);
        Edge.refused("31 of 30, by 0", Plans.STATE, Promise14::threeBudgets, plan -> plan.note(0, 0, 0, 31));
    }

    /** A chain in work with budgets of 30, 20 and 25. */
    private static TicketForge threeBudgets() {
        TicketForge plan = new TicketForge();
        int[] budgets = {30, 20, 25};
        for (int i = 0; i < 3; i++) {
            plan.addTask(i - 1, 5, budgets[i]);
            plan.begin(i);
        }
        return plan;
    }

    static void hoursOfTheWholeTreeCountForABudget() {
        Edge.refused("of a child of a child", Plans.STATE, Promise14::hoursBelow, plan -> plan.note(0, 0, 0, 7));
        noteIsTaken(hoursBelow(), 0, 0, 0, 6);
        noteIsTaken(hoursBelow(), 3, 0, 0, 6);
    }

    /** A budget of 20, and 14 hours below it: 4 of a child, 8 of its child, 2 of another child. */
    private static TicketForge hoursBelow() {
        TicketForge plan = new TicketForge();
        int[] parents = {-1, 0, 1, 0};
        int[] hours = {0, 4, 8, 2};
        for (int i = 0; i < 4; i++) {
            plan.addTask(parents[i], 5, i == 0 ? 20 : 0);
            plan.begin(i);
            noteAll(plan, i, hours[i]);
        }
        return plan;
    }

    static void budgetsBelowAndBesideDoNotBind() {
        TicketForge plan = new TicketForge();
        plan.addTask(-1, 5, 0);
        plan.addTask(0, 5, 1);
        plan.addTask(0, 5, 0);
        plan.addTask(-1, 5, 1);
        plan.begin(0);
        plan.begin(2);
        noteIsTaken(plan, 0, 0, 0, 40);
        noteIsTaken(plan, 2, 0, 0, 40);
    }

    static void hoursOfAnotherTreeDoNotCountForABudget() {
        TicketForge plan = budget(40, 0);
        plan.addTask(-1, 5, 0);
        plan.begin(1);
        noteAll(plan, 1, 400);
        noteIsTaken(plan, 0, 0, 0, 40);
    }

    static void entriesOfAllStatesCountForABudget() {
        char[] states = {'n', 'a', 'b', 'c', 'x'};
        for (char state : states) {
            Edge.refused("2 of 1, beside one in " + state, Plans.STATE, () -> besideOneIn(state),
                plan -> plan.note(0, 0, 9, 2));
            noteIsTaken(besideOneIn(state), 0, 0, 9, 1);
        }
    }

    /** A task in work with a budget of 6, and an entry of 5 hours in this state, of its child if it is billed. */
    private static TicketForge besideOneIn(char state) {
        TicketForge plan = new TicketForge();
        plan.addTask(-1, 5, 6);
        plan.addTask(0, 5, 0);
        plan.begin(0);
        plan.begin(1);
        plan.note(1, 0, 0, 5);
        if (state == 'x') {
            plan.lock(0);
        } else if (state != 'n') {
            plan.approve(0);
        }
        if (state == 'b' || state == 'c') {
            Plans.end(plan, 1);
            plan.invoice(0, 0);
        }
        if (state == 'c') {
            plan.reopen(1);
        }
        Check.same("the entry's state", plan.entryState(0), state);
        return plan;
    }

    static void theEstimateDoesNotBind() {
        TicketForge plan = new TicketForge();
        plan.addTask(-1, 1, 0);
        plan.begin(0);
        noteIsTaken(plan, 0, 0, 0, 40);
    }

    static void theCapDoesNotBind() {
        TicketForge plan = Plans.oneInWork();
        plan.setCap(0);
        noteIsTaken(plan, 0, 0, 0, 40);
        noteIsTaken(plan, 0, 0, 0, 40);
    }

    static void noSuchTaskComesAheadOfTheRange() {
        Edge.refused("task and person", Plans.INDEX, Plans::oneInWork, plan -> plan.note(1, 4, 0, 1));
        Edge.refused("task and week", Plans.INDEX, Plans::oneInWork, plan -> plan.note(-1, 0, 30, 1));
        Edge.refused("task and hours", Plans.INDEX, Plans::oneInWork, plan -> plan.note(1, 0, 0, 41));
    }

    static void noSuchTaskComesAheadOfALockedWeek() {
        Edge.refused("task and week", Plans.INDEX, Promise14::lockedWeek3, plan -> plan.note(1, 0, 3, 1));
    }

    static void noSuchTaskComesAheadOf60Entries() {
        Edge.refused("task and entries", Plans.INDEX, () -> noted(60), plan -> plan.note(1, 0, 0, 1));
    }

    static void theRangeComesAheadOfALockedWeek() {
        Edge.refused("person and lock", Plans.ARGUMENT, Promise14::lockedWeek3, plan -> plan.note(0, -1, 3, 1));
        Edge.refused("hours and lock", Plans.ARGUMENT, Promise14::lockedWeek3, plan -> plan.note(0, 0, 3, 0));
    }

    static void theRangeComesAheadOfTheState() {
        Edge.refused("person and state", Plans.ARGUMENT, () -> Plans.open(1), plan -> plan.note(0, 4, 0, 1));
        Edge.refused("week and state", Plans.ARGUMENT, () -> Plans.open(1), plan -> plan.note(0, 0, 30, 1));
        Edge.refused("hours and state", Plans.ARGUMENT, () -> Plans.open(1), plan -> plan.note(0, 0, 0, 41));
    }

    static void theRangeComesAheadOfABudgetAnd60Entries() {
        Edge.refused("hours and budget", Plans.ARGUMENT, () -> budget(1, 1), plan -> plan.note(0, 0, 0, 41));
        Edge.refused("hours and entries", Plans.ARGUMENT, () -> noted(60), plan -> plan.note(0, 0, 0, 0));
    }

    static void aLockedWeekComesAheadOfTheState() {
        Edge.refused("lock and open", Plans.UNSUPPORTED, Promise14::lockedAndOpen, plan -> plan.note(0, 0, 3, 1));
    }

    private static TicketForge lockedAndOpen() {
        TicketForge plan = Plans.open(1);
        plan.lock(3);
        return plan;
    }

    static void aLockedWeekComesAheadOfABudget() {
        Edge.refused("lock and budget", Plans.UNSUPPORTED, Promise14::lockedAndSpent, plan -> plan.note(0, 0, 3, 1));
    }

    private static TicketForge lockedAndSpent() {
        TicketForge plan = budget(1, 1);
        plan.lock(3);
        return plan;
    }

    static void aLockedWeekComesAheadOf60Entries() {
        Edge.refused("lock and entries", Plans.UNSUPPORTED, Promise14::lockedAndFull, plan -> plan.note(0, 0, 3, 1));
    }

    private static TicketForge lockedAndFull() {
        TicketForge plan = noted(60);
        plan.lock(3);
        return plan;
    }
}
