/** Promise 35: due. */
final class Promise35 {
    private Promise35() {
    }

    static void withoutInvoicesItIs0() {
        Check.same("due()", new TicketForge().due(), 0L);
        Check.same("due(), with one approved", Plans.entryIn('a').due(), 0L);
    }

    static void oneInvoiceIsItsTotal() {
        Check.same("due()", Plans.entryIn('b').due(), 250L);
    }

    static void whatIsCreditedIsNotDue() {
        Check.same("due()", Plans.entryIn('c').due(), 0L);
    }

    static void twentyInvoicesAreDue() {
        TicketForge plan = Plans.full();
        long sum = 0;
        for (int entry = 0; entry < 40; entry++) {
            sum += entry % 8 == 0 ? 0 : 50 * (1 + entry % 5);
        }
        Check.same("due(), without task 0", plan.due(), sum);
    }

    static void theMostIsDue() {
        TicketForge plan = Plans.oneInWork();
        for (int i = 0; i < 60; i++) {
            Plans.work(plan, 0, i % 4, i / 4, 40);
        }
        for (int person = 0; person < 4; person++) {
            plan.setRate(person, 200);
        }
        Plans.end(plan, 0);
        plan.invoice(0, 7);
        plan.invoice(0, 29);
        Check.same("due()", plan.due(), 480000L);
        plan.reopen(0);
        Check.same("due(), credited", plan.due(), 0L);
    }
}
