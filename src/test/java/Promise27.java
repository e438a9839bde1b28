/** Promise 27: total. */
final class Promise27 {
    private Promise27() {
    }

    static void aTotalOf0IsTold() {
        TicketForge plan = Plans.entryIn('a');
        plan.setRate(0, 0);
        Plans.end(plan, 0);
        plan.invoice(0, 0);
        Check.same("total(0)", plan.total(0), 0);
    }

    static void theFirstAndTheLastOf20AreTold() {
        TicketForge plan = Plans.full();
        Check.same("total(0), of 1 and 2 hours", plan.total(0), 150);
        Check.same("total(19), of 4 and 5 hours", plan.total(19), 450);
    }

    static void aCreditedInvoiceKeepsItsTotal() {
        Check.same("total(0)", Plans.entryIn('c').total(0), 250);
    }

    static void rulesThatAreSetLaterDoNotChangeIt() {
        TicketForge plan = Plans.entryIn('b');
        plan.setRate(0, 200);
        plan.setCap(0);
        plan.setDiscount(0, 50);
        Check.same("total(0)", plan.total(0), 250);
    }

    static void noSuchInvoiceIsRefused() {
        Edge.noSuchInvoice((plan, number) -> plan.total(number));
    }
}
