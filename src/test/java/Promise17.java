/** Promise 17: entryState. */
final class Promise17 {
    private Promise17() {
    }

    static void eachStateIsTold() {
        char[] states = {'n', 'a', 'b', 'c', 'x'};
        for (char state : states) {
            Check.same("entryState(0)", Plans.entryIn(state).entryState(0), state);
        }
    }

    static void theFirstAndTheLastOf60AreTold() {
        TicketForge plan = Plans.full();
        Check.same("entryState(0)", plan.entryState(0), 'c');
        Check.same("entryState(1)", plan.entryState(1), 'b');
        Check.same("entryState(59)", plan.entryState(59), 'n');
    }

    static void noSuchEntryIsRefused() {
        Edge.noSuchEntry((plan, number) -> plan.entryState(number));
    }
}
