/** Promise 26: invoices. */
final class Promise26 {
    private Promise26() {
    }

    static void aNewPlanHas0() {
        Check.same("invoices()", new TicketForge().invoices(), 0);
        Check.same("invoices(), with one approved", Plans.entryIn('a').invoices(), 0);
    }

    static void aFullPlanHas20() {
        Check.same("invoices()", Plans.full().invoices(), 20);
    }

    static void aRefusedInvoiceIsNotCounted() {
        TicketForge plan = Plans.full();
        Check.thrownBy(() -> plan.invoice(0, 29));
        Check.same("invoices()", plan.invoices(), 20);
        TicketForge one = Plans.entryIn('b');
        Check.thrownBy(() -> one.invoice(0, 0));
        Check.same("invoices()", one.invoices(), 1);
    }

    static void aCreditedInvoiceIsCounted() {
        Check.same("invoices()", Plans.entryIn('c').invoices(), 1);
    }

    static void anInvoiceOfNothingBillableIsCounted() {
        TicketForge plan = Plans.entryIn('a');
        plan.setCap(0);
        Plans.end(plan, 0);
        plan.invoice(0, 0);
        Check.same("invoices()", plan.invoices(), 1);
    }
}
