/** Promise 21: room. */
final class Promise21 {
    private Promise21() {
    }

    /** A chain with these budgets, all in work. */
    private static TicketForge budgets(int... budgets) {
        TicketForge plan = new TicketForge();
        for (int i = 0; i < budgets.length; i++) {
            plan.addTask(i - 1, 5, budgets[i]);
            plan.begin(i);
        }
        return plan;
    }

    static void theLeastBudgetIs1() {
        Check.same("room(0)", budgets(1).room(0), 1);
    }

    static void theGreatestBudgetIs400() {
        Check.same("room(0)", budgets(400).room(0), 400);
    }

    static void aSpentBudgetIs0() {
        TicketForge plan = budgets(40);
        plan.note(0, 0, 0, 40);
        Check.same("room(0)", plan.room(0), 0);
    }

    static void aSpentBudgetOf400Is0() {
        TicketForge plan = budgets(400);
        for (int i = 0; i < 10; i++) {
            Check.same("room(0)", plan.room(0), 400 - 40 * i);
            plan.note(0, 0, 0, 40);
        }
        Check.same("room(0)", plan.room(0), 0);
    }

    static void noteTakesTheRoomAndNotAnHourMore() {
        Edge.refused("an hour more", Plans.STATE, () -> budgets(30, 20), plan -> plan.note(1, 0, 0, 21));
        TicketForge plan = budgets(30, 20);
        plan.note(1, 0, 0, plan.room(1));
        Check.same("room(1)", plan.room(1), 0);
        Check.same("room(0)", plan.room(0), 10);
    }

    static void theLeastRoomIsTold() {
        Check.same("of its own", budgets(30, 20).room(1), 20);
        Check.same("of its parent", budgets(20, 30).room(1), 20);
        Check.same("of the top", budgets(20, 30, 40).room(2), 20);
        Check.same("of the middle", budgets(30, 20, 40).room(2), 20);
        Check.same("of the same", budgets(20, 20).room(1), 20);
    }

    static void theRoomLeftCountsNotTheBudget() {
        TicketForge plan = budgets(50, 45);
        plan.note(0, 0, 0, 40);
        Check.same("room(1), of its parent", plan.room(1), 10);
    }

    static void aSpentBudgetAboveIs0() {
        TicketForge plan = budgets(5, 400);
        plan.note(0, 0, 0, 5);
        Check.same("room(1)", plan.room(1), 0);
    }

    static void theBudgetOfTheTopOf16Applies() {
        int[] chain = new int[16];
        chain[0] = 9;
        Check.same("room(15)", budgets(chain).room(15), 9);
    }

    static void withoutABudgetItIsRefused() {
        int[] chain = new int[16];
        Edge.refused("room(0)", Plans.NO_SUCH, () -> Plans.open(1), plan -> plan.room(0));
        Edge.refused("room(15) of a chain", Plans.NO_SUCH, () -> budgets(chain), plan -> plan.room(15));
    }

    static void aBudgetBelowDoesNotApply() {
        Edge.refused("room(0)", Plans.NO_SUCH, () -> budgets(0, 9), plan -> plan.room(0));
    }

    static void aBudgetBesideDoesNotApply() {
        Edge.refused("room(1)", Plans.NO_SUCH, Promise21::beside, plan -> plan.room(1));
    }

    private static TicketForge beside() {
        TicketForge plan = budgets(9);
        plan.addTask(-1, 5, 0);
        return plan;
    }

    static void theTasksStateDoesNotMatter() {
        char[] states = {'o', 'w', 'r', 'd'};
        for (char state : states) {
            TicketForge plan = new TicketForge();
            plan.addTask(-1, 5, 9);
            Plans.bring(plan, 0, state);
            Check.same("room(0) of one in " + state, plan.room(0), 9);
        }
    }

    static void fullEntriesDoNotMatter() {
        TicketForge plan = Plans.full();
        Check.same("room(0), 400 less the 60 entries", plan.room(0), 400 - 180);
        Check.same("room(7)", plan.room(7), 400 - 180);
    }

    static void noSuchTaskIsRefused() {
        Edge.noSuchTask((plan, number) -> plan.room(number));
    }
}
