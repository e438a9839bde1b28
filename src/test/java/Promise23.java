/** Promise 23: setCap. */
final class Promise23 {
    private Promise23() {
    }

    /** The states of entries of these hours, of one person in one week, invoiced with this cap. */
    private static String statesAtCap(int cap, int... hours) {
        TicketForge plan = Plans.oneInWork();
        for (int each : hours) {
            Plans.work(plan, 0, 2, 5, each);
        }
        Plans.end(plan, 0);
        plan.setCap(cap);
        plan.invoice(0, 29);
        StringBuilder states = new StringBuilder();
        for (int i = 0; i < hours.length; i++) {
            states.append(plan.entryState(i));
        }
        return states.toString();
    }

    static void theCapBeforeIsTold() {
        TicketForge plan = new TicketForge();
        Check.same("setCap(0)", plan.setCap(0), 40);
        Check.same("setCap(60)", plan.setCap(60), 0);
        Check.same("setCap(60) again", plan.setCap(60), 60);
        Check.same("setCap(40)", plan.setCap(40), 60);
    }

    static void aCapOf0BillsNothing() {
        Check.same("1 hour", statesAtCap(0, 1), "x");
    }

    static void aCapOf1BillsOneHour() {
        Check.same("1 hour", statesAtCap(1, 1), "b");
        Check.same("2 hours", statesAtCap(1, 2), "x");
        Check.same("1 hour and another", statesAtCap(1, 1, 1), "bx");
    }

    static void aCapOf60Bills60Hours() {
        Check.same("40 and 20 hours", statesAtCap(60, 40, 20), "bb");
        Check.same("40 and 21 hours", statesAtCap(60, 40, 21), "bx");
        Check.same("40, 20 and 1 hours", statesAtCap(60, 40, 20, 1), "bbx");
    }

    static void aCapOutsideIsRefused() {
        Edge.outside("cap", Plans.ARGUMENT, 0, 60, () -> Plans.entryIn('a'), (plan, cap) -> plan.setCap(cap));
    }

    static void hoursThatAreBilledStayBilled() {
        TicketForge plan = Plans.entryIn('b');
        plan.setCap(0);
        Check.same("entryState(0)", plan.entryState(0), 'b');
        Check.same("isSettled()", plan.isSettled(), true);
    }
}
