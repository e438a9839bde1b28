/** Promise 30: items. */
final class Promise30 {
    private Promise30() {
    }

    static void anInvoiceOfNothingBillableHas0() {
        TicketForge plan = Plans.entryIn('a');
        plan.setCap(4);
        Plans.end(plan, 0);
        plan.invoice(0, 0);
        Check.same("items(0)", plan.items(0), 0);
    }

    static void oneEntryIs1() {
        Check.same("items(0)", Plans.entryIn('b').items(0), 1);
    }

    static void sixtyEntriesAreTheMost() {
        TicketForge plan = Plans.oneInWork();
        for (int i = 0; i < 60; i++) {
            Plans.work(plan, 0, i % 4, i % 30, 1);
        }
        Plans.end(plan, 0);
        plan.invoice(0, 29);
        Check.same("items(0)", plan.items(0), 60);
    }

    static void entriesOverTheCapAreNotCounted() {
        TicketForge plan = Plans.oneInWork();
        Plans.work(plan, 0, 0, 0, 40);
        Plans.work(plan, 0, 0, 0, 1);
        Plans.end(plan, 0);
        plan.invoice(0, 0);
        Check.same("items(0)", plan.items(0), 1);
    }

    static void entriesAtAPriceOf0AreCounted() {
        TicketForge plan = Plans.entryIn('a');
        plan.setRate(0, 0);
        Plans.end(plan, 0);
        plan.invoice(0, 0);
        Check.same("items(0)", plan.items(0), 1);
    }

    static void creditedEntriesAreCounted() {
        Check.same("items(0)", Plans.entryIn('c').items(0), 1);
    }

    static void entriesOfOtherInvoicesAreNotCounted() {
        TicketForge plan = Plans.full();
        for (int invoice = 0; invoice < 20; invoice++) {
            Check.same("items(" + invoice + ")", plan.items(invoice), 2);
        }
    }

    static void noSuchInvoiceIsRefused() {
        Edge.noSuchInvoice((plan, number) -> plan.items(number));
    }
}
