/** Promise 33: pace. */
final class Promise33 {
    private Promise33() {
    }

    /** An entry of these hours in this week. */
    private static TicketForge noted(int week, int hours) {
        TicketForge plan = Plans.oneInWork();
        plan.note(0, 0, week, hours);
        return plan;
    }

    static void withoutEntriesItIs0() {
        TicketForge plan = new TicketForge();
        Check.same("pace(0)", plan.pace(0), 0.0f);
        Check.same("pace(29)", plan.pace(29), 0.0f);
    }

    static void week0CountsAlone() {
        TicketForge plan = noted(0, 5);
        plan.note(0, 0, 1, 7);
        Check.same("pace(0)", plan.pace(0), 5.0f / 3.0f);
    }

    static void week1CountsWithTheOneAheadOfIt() {
        TicketForge plan = noted(0, 5);
        plan.note(0, 0, 1, 7);
        plan.note(0, 0, 2, 11);
        Check.same("pace(1)", plan.pace(1), 12.0f / 3.0f);
    }

    static void week2CountsWithTheTwoAheadOfIt() {
        TicketForge plan = noted(0, 5);
        plan.note(0, 0, 1, 7);
        plan.note(0, 0, 2, 11);
        plan.note(0, 0, 3, 13);
        Check.same("pace(2)", plan.pace(2), 23.0f / 3.0f);
        Check.same("pace(3)", plan.pace(3), 31.0f / 3.0f);
    }

    static void aWeekCountsForThreeWeeks() {
        TicketForge plan = noted(10, 9);
        float[] paces = {0.0f, 3.0f, 3.0f, 3.0f, 0.0f};
        for (int i = 0; i < paces.length; i++) {
            Check.same("pace(" + (9 + i) + ")", plan.pace(9 + i), paces[i]);
        }
    }

    static void week29CountsOnce() {
        TicketForge plan = noted(29, 9);
        Check.same("pace(28)", plan.pace(28), 0.0f);
        Check.same("pace(29)", plan.pace(29), 3.0f);
        Check.same("pace(0)", plan.pace(0), 0.0f);
        Check.same("pace(1)", plan.pace(1), 0.0f);
    }

    static void theLeastPaceIsAThird() {
        Check.same("pace(0)", noted(0, 1).pace(0), 1.0f / 3.0f);
        Check.same("pace(0) of 2", noted(0, 2).pace(0), 2.0f / 3.0f);
    }

    static void theGreatestPaceIs800() {
        TicketForge plan = Plans.oneInWork();
        for (int i = 0; i < 60; i++) {
            plan.note(0, i % 4, i % 3, 40);
        }
        Check.same("pace(2)", plan.pace(2), 800.0f);
        Check.same("pace(0)", plan.pace(0), 800.0f / 3.0f);
    }

    static void allTasksPersonsAndStatesCount() {
        TicketForge plan = Plans.full();
        int[] hours = new int[30];
        for (int i = 0; i < 60; i++) {
            hours[i / 2] += 1 + i % 5;
        }
        for (int week = 2; week < 30; week++) {
            float sum = hours[week] + hours[week - 1] + hours[week - 2];
            Check.same("pace(" + week + ")", plan.pace(week), sum / 3.0f);
        }
        char[] states = {'n', 'a', 'b', 'c', 'x'};
        for (char state : states) {
            Check.same("pace(2), one in " + state, Plans.entryIn(state).pace(2), 5.0f / 3.0f);
        }
    }

    static void noSuchWeekIsRefused() {
        Edge.noSuchWeek(() -> noted(0, 5), (plan, week) -> plan.pace(week));
        Edge.noSuchWeek(() -> noted(29, 5), (plan, week) -> plan.pace(week));
    }
}
