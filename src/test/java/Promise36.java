/** Promise 36: meanPrice. */
final class Promise36 {
    private Promise36() {
    }

    /** An entry of an hour at 7, and one of 2 hours at 50, billed. */
    private static TicketForge twoBilled() {
        TicketForge plan = Plans.chain(2);
        plan.setRate(1, 7);
        for (int i = 0; i < 2; i++) {
            plan.begin(i);
            Plans.work(plan, i, 1 - i, 0, 1 + i);
        }
        Plans.end(plan, 1);
        Plans.end(plan, 0);
        plan.invoice(0, 0);
        return plan;
    }

    static void withoutBilledEntriesItIsRefused() {
        Edge.refused("a new plan", Plans.ARITHMETIC, TicketForge::new, TicketForge::meanPrice);
        char[] states = {'n', 'a', 'c', 'x'};
        for (char state : states) {
            Edge.refused("one in " + state, Plans.ARITHMETIC, () -> Plans.entryIn(state), TicketForge::meanPrice);
        }
    }

    static void anInvoiceOfNothingBillableIsRefused() {
        Edge.refused("over the cap", Plans.ARITHMETIC, Promise36::overTheCap, TicketForge::meanPrice);
    }

    private static TicketForge overTheCap() {
        TicketForge plan = Plans.entryIn('a');
        plan.setCap(4);
        Plans.end(plan, 0);
        plan.invoice(0, 0);
        return plan;
    }

    static void oneBilledEntryIsEnough() {
        Check.same("meanPrice()", Plans.entryIn('b').meanPrice(), 50.0);
    }

    static void oneBilledHourIsEnough() {
        TicketForge plan = Plans.oneInWork();
        Plans.work(plan, 0, 0, 0, 1);
        Plans.end(plan, 0);
        plan.invoice(0, 0);
        Check.same("meanPrice()", plan.meanPrice(), 50.0);
    }

    static void aPriceOf0Is0() {
        TicketForge plan = Plans.entryIn('a');
        plan.setRate(0, 0);
        Plans.end(plan, 0);
        plan.invoice(0, 0);
        Check.same("meanPrice()", plan.meanPrice(), 0.0);
    }

    static void itIsADoubleNotAWholeNumberNorAFloat() {
        Check.same("107 for 3 hours", twoBilled().meanPrice(), 107.0 / 3.0);
    }

    static void creditedEntriesDoNotCount() {
        TicketForge plan = twoBilled();
        plan.reopen(0);
        Check.same("100 for 2 hours", plan.meanPrice(), 50.0);
    }

    static void thePricesWithTheDiscountCount() {
        TicketForge plan = Plans.entryIn('a');
        plan.setDiscount(250, 15);
        Plans.end(plan, 0);
        plan.invoice(0, 0);
        Check.same("212 for 5 hours", plan.meanPrice(), 212.0 / 5.0);
    }

    static void theGreatestMeanIs200() {
        TicketForge plan = Plans.oneInWork();
        for (int i = 0; i < 60; i++) {
            Plans.work(plan, 0, 0, i / 2, 20);
        }
        plan.setRate(0, 200);
        Plans.end(plan, 0);
        plan.invoice(0, 29);
        Check.same("meanPrice()", plan.meanPrice(), 200.0);
    }
}
