/** Promise 31: invoiceOf. */
final class Promise31 {
    private Promise31() {
    }

    static void invoice0IsTold() {
        Check.same("invoiceOf(0)", Plans.entryIn('b').invoiceOf(0), 0);
    }

    static void eachOf20InvoicesIsTold() {
        TicketForge plan = Plans.full();
        for (int entry = 0; entry < 40; entry++) {
            Check.same("invoiceOf(" + entry + ")", plan.invoiceOf(entry), entry / 2);
        }
    }

    static void aCreditedEntryHasItsInvoiceStill() {
        TicketForge plan = Plans.entryIn('c');
        Check.same("invoiceOf(0)", plan.invoiceOf(0), 0);
        Plans.work(plan, 0, 0, 0, 1);
        Plans.end(plan, 0);
        plan.invoice(0, 0);
        Check.same("invoiceOf(0), after another", plan.invoiceOf(0), 0);
        Check.same("invoiceOf(1)", plan.invoiceOf(1), 1);
    }

    static void anEntryThatIsNotBilledIsRefused() {
        Edge.refused("noted", Plans.STATE, () -> Plans.entryIn('n'), plan -> plan.invoiceOf(0));
        Edge.refused("approved", Plans.STATE, () -> Plans.entryIn('a'), plan -> plan.invoiceOf(0));
        Edge.refused("not billable", Plans.STATE, () -> Plans.entryIn('x'), plan -> plan.invoiceOf(0));
        Edge.refused("over the cap", Plans.STATE, Promise31::overTheCap, plan -> plan.invoiceOf(0));
    }

    private static TicketForge overTheCap() {
        TicketForge plan = Plans.entryIn('a');
        plan.setCap(4);
        Plans.end(plan, 0);
        plan.invoice(0, 0);
        return plan;
    }

    static void noSuchEntryIsRefused() {
        Edge.noSuchEntry((plan, number) -> plan.invoiceOf(number));
    }
}
