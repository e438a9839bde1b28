/** Promise 29: credited. */
final class Promise29 {
    private Promise29() {
    }

    static void anInvoiceAtFirstHas0() {
        Check.same("credited(0)", Plans.entryIn('b').credited(0), 0);
    }

    static void anInvoiceOfNothingBillableHas0() {
        TicketForge plan = Plans.entryIn('a');
        plan.setCap(0);
        Plans.end(plan, 0);
        plan.invoice(0, 0);
        plan.reopen(0);
        Check.same("credited(0)", plan.credited(0), 0);
    }

    static void allOfAnInvoiceIsCredited() {
        TicketForge plan = Plans.entryIn('c');
        Check.same("credited(0)", plan.credited(0), 250);
        Check.same("total(0)", plan.total(0), 250);
    }

    static void whatWasReopenedTwiceIsCreditedOnce() {
        TicketForge plan = Plans.entryIn('c');
        Plans.end(plan, 0);
        plan.reopen(0);
        Check.same("credited(0)", plan.credited(0), 250);
    }

    static void eachInvoiceHasItsOwn() {
        TicketForge plan = Plans.entryIn('c');
        Plans.work(plan, 0, 1, 1, 7);
        Plans.end(plan, 0);
        plan.invoice(0, 1);
        Check.same("credited(1), not yet", plan.credited(1), 0);
        plan.reopen(0);
        Check.same("credited(0)", plan.credited(0), 250);
        Check.same("credited(1)", plan.credited(1), 350);
    }

    static void tasksAreCreditedOneAfterAnother() {
        TicketForge plan = Plans.chain(2);
        for (int i = 0; i < 2; i++) {
            plan.begin(i);
            Plans.work(plan, i, 0, 0, 1 + i);
        }
        Plans.end(plan, 1);
        Plans.end(plan, 0);
        plan.invoice(0, 0);
        plan.reopen(0);
        Check.same("credited(0), by the parent", plan.credited(0), 50);
        plan.reopen(1);
        Check.same("credited(0), by the child too", plan.credited(0), 150);
    }

    static void theFirstAndTheLastOf20AreTold() {
        TicketForge plan = Plans.full();
        Check.same("credited(0), 1 hour", plan.credited(0), 50);
        Check.same("credited(1)", plan.credited(1), 0);
        Check.same("credited(16), 3 hours", plan.credited(16), 150);
        Check.same("credited(19)", plan.credited(19), 0);
    }

    static void noSuchInvoiceIsRefused() {
        Edge.noSuchInvoice((plan, number) -> plan.credited(number));
    }
}
