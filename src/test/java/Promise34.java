/** Promise 34: forecast. */
final class Promise34 {
    private Promise34() {
    }

    /** Task 0 has this estimate; another one has noted these hours in week 10. */
    private static TicketForge plan(int estimate, int hours) {
        TicketForge plan = new TicketForge();
        plan.addTask(-1, estimate, 0);
        plan.addTask(-1, 400, 0);
        plan.begin(1);
        for (int rest = hours; rest > 0; rest -= 40) {
            plan.note(1, 0, 10, Math.min(rest, 40));
        }
        return plan;
    }

    /** A task without anything left; its hours are in week 10. */
    private static TicketForge nothingLeft() {
        TicketForge plan = new TicketForge();
        plan.addTask(-1, 5, 0);
        plan.begin(0);
        plan.note(0, 0, 10, 6);
        return plan;
    }

    static void theGreatestForecastIs1200() {
        Check.same("400 by a third an hour", plan(400, 1).forecast(0, 10), 1200);
    }

    static void theLeastForecastOfWhatIsLeftIs1() {
        Check.same("1 by an hour", plan(1, 3).forecast(0, 10), 1);
        Check.same("1 by 800 hours", plan(1, 2400).forecast(0, 10), 1);
        Check.same("400 by 800 hours", plan(400, 2400).forecast(0, 10), 1);
    }

    static void exactlySoManyWeeksAreNotOneMore() {
        Check.same("6 by 2 hours", plan(6, 6).forecast(0, 10), 3);
        Check.same("1 by a third", plan(1, 1).forecast(0, 10), 3);
        Check.same("400 by 400 thirds", plan(400, 400).forecast(0, 10), 3);
        Check.same("400 by 400 hours", plan(400, 1200).forecast(0, 10), 1);
    }

    static void anHourMoreIsAWeekMore() {
        Check.same("7 by 2 hours", plan(7, 6).forecast(0, 10), 4);
        Check.same("2 by an hour", plan(2, 3).forecast(0, 10), 2);
        Check.same("400 by 1199 thirds", plan(400, 1199).forecast(0, 10), 2);
    }

    static void anHourLessIsTheSameWeek() {
        Check.same("5 by 2 hours", plan(5, 6).forecast(0, 10), 3);
        Check.same("1 by two thirds", plan(1, 2).forecast(0, 10), 2);
        Check.same("400 by 1201 thirds", plan(400, 1201).forecast(0, 10), 1);
    }

    static void itIsReckonedInWholeNumbers() {
        for (int hours = 1; hours <= 120; hours++) {
            for (int estimate = 1; estimate <= 400; estimate += 7) {
                int weeks = 0;
                while (weeks * hours < estimate * 3) {
                    weeks++;
                }
                Check.same(estimate + " by " + hours + " thirds", plan(estimate, hours).forecast(0, 10), weeks);
            }
        }
    }

    static void nothingLeftIs0() {
        Check.same("forecast(0, 10)", nothingLeft().forecast(0, 10), 0);
        Check.same("forecast(0, 12)", nothingLeft().forecast(0, 12), 0);
    }

    static void theFirstAndTheLastWeekAreTaken() {
        TicketForge plan = Plans.oneInWork();
        plan.note(0, 0, 0, 3);
        plan.note(0, 0, 29, 6);
        Check.same("forecast(0, 0), 91 by 1", plan.forecast(0, 0), 91);
        Check.same("forecast(0, 29), 91 by 2", plan.forecast(0, 29), 46);
    }

    static void thePaceOfThreeWeeksCounts() {
        int[] weeks = {10, 11, 12};
        for (int week : weeks) {
            Check.same("forecast(0, " + week + ")", plan(6, 6).forecast(0, week), 3);
        }
    }

    static void aPaceOf0IsRefused() {
        Edge.refused("week 9", Plans.ARITHMETIC, () -> plan(6, 6), plan -> plan.forecast(0, 9));
        Edge.refused("week 13", Plans.ARITHMETIC, () -> plan(6, 6), plan -> plan.forecast(0, 13));
        Edge.refused("without entries", Plans.ARITHMETIC, () -> Plans.open(1), plan -> plan.forecast(0, 0));
        Edge.refused("week 29", Plans.ARITHMETIC, () -> Plans.open(1), plan -> plan.forecast(0, 29));
    }

    static void aPaceOf0IsRefusedIfNothingIsLeft() {
        Edge.refused("week 9", Plans.ARITHMETIC, Promise34::nothingLeft, plan -> plan.forecast(0, 9));
    }

    static void noSuchTaskIsRefused() {
        Edge.noSuchTask((plan, number) -> plan.forecast(number, 0));
    }

    static void noSuchWeekIsRefused() {
        Edge.noSuchWeek(() -> plan(6, 6), (plan, week) -> plan.forecast(0, week));
    }

    static void noSuchTaskComesAheadOfTheWeek() {
        Edge.refused("task and week", Plans.INDEX, () -> plan(6, 6), plan -> plan.forecast(2, 30));
        Edge.refused("task and week", Plans.INDEX, TicketForge::new, plan -> plan.forecast(-1, -1));
    }

    static void noSuchTaskComesAheadOfAPaceOf0() {
        Edge.refused("task and pace", Plans.INDEX, () -> plan(6, 6), plan -> plan.forecast(2, 0));
    }

    static void noSuchWeekComesAheadOfAPaceOf0() {
        Edge.refused("week and pace", Plans.ARGUMENT, () -> Plans.open(1), plan -> plan.forecast(0, 30));
        Edge.refused("week and pace", Plans.ARGUMENT, () -> Plans.open(1), plan -> plan.forecast(0, -1));
    }
}
