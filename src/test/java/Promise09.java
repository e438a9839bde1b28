/** Promise 9: state. */
final class Promise09 {
    private Promise09() {
    }

    static void eachStateIsTold() {
        char[] states = {'o', 'w', 'r', 'd'};
        for (char state : states) {
            Check.same("state(0)", Plans.taskIn(state).state(0), state);
        }
    }

    static void theFirstAndTheLastOf16AreTold() {
        TicketForge plan = Plans.open(16);
        plan.begin(15);
        Check.same("state(0)", plan.state(0), 'o');
        Check.same("state(15)", plan.state(15), 'w');
    }

    static void noSuchTaskIsRefused() {
        Edge.noSuchTask((plan, number) -> plan.state(number));
    }
}
