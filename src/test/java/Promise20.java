/** Promise 20: hours. */
final class Promise20 {
    private Promise20() {
    }

    static void aTaskWithoutEntriesHas0() {
        Check.same("hours(0)", Plans.open(1).hours(0), 0);
        Check.same("hours(15)", Plans.open(16).hours(15), 0);
    }

    static void sixtyEntriesAreTheMost() {
        TicketForge plan = Plans.oneInWork();
        for (int i = 0; i < 60; i++) {
            plan.note(0, i % 4, i % 30, 40);
        }
        Check.same("hours(0)", plan.hours(0), 2400);
    }

    static void theLastOf16CountsForAllAboveIt() {
        TicketForge plan = Plans.chain(16);
        plan.begin(15);
        plan.note(15, 0, 0, 7);
        for (int i = 0; i < 16; i++) {
            Check.same("hours(" + i + ")", plan.hours(i), 7);
        }
    }

    static void theFirstOf16DoesNotCountBelowIt() {
        TicketForge plan = Plans.chain(16);
        plan.begin(0);
        plan.note(0, 0, 0, 7);
        Check.same("hours(0)", plan.hours(0), 7);
        for (int i = 1; i < 16; i++) {
            Check.same("hours(" + i + ")", plan.hours(i), 0);
        }
    }

    static void anotherTreeDoesNotCount() {
        TicketForge plan = Plans.entryIn('n');
        plan.addTask(-1, 5, 0);
        Check.same("hours(1)", plan.hours(1), 0);
    }

    static void entriesOfAllStatesCount() {
        char[] states = {'n', 'a', 'b', 'c', 'x'};
        for (char state : states) {
            Check.same("hours(0), one in " + state, Plans.entryIn(state).hours(0), 5);
        }
    }

    static void noSuchTaskIsRefused() {
        Edge.noSuchTask((plan, number) -> plan.hours(number));
    }
}
