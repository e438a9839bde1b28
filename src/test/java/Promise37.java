/** Promise 37: isSettled. No run of calls makes it false; what would is set inside of the plan: see Inside. */
final class Promise37 {
    private Promise37() {
    }

    private static void settled(String what, TicketForge plan) {
        Check.same("isSettled() of " + what, plan.isSettled(), true);
    }

    private static void notSettled(String what, TicketForge plan) {
        Check.same("isSettled() of " + what, plan.isSettled(), false);
    }

    /** 60 hours of a person in a week, billed at a cap of 60. */
    private static TicketForge sixtyHours() {
        TicketForge plan = Plans.oneInWork();
        plan.setCap(60);
        Plans.work(plan, 0, 0, 0, 40);
        Plans.work(plan, 0, 0, 0, 20);
        Plans.end(plan, 0);
        plan.invoice(0, 0);
        Check.same("items(0)", plan.items(0), 2);
        return plan;
    }

    static void anotherTotalThanByTheRulesIsNotSettled() {
        int[] invoices = {0, 7, 19};
        for (int invoice : invoices) {
            TicketForge more = Plans.full();
            Inside.addToTotal(more, invoice, 1);
            notSettled("1 more for invoice " + invoice, more);
            TicketForge less = Plans.full();
            Inside.addToTotal(less, invoice, -1);
            notSettled("1 less for invoice " + invoice, less);
        }
    }

    static void anotherCreditThanOfTheEntriesIsNotSettled() {
        int[] invoices = {0, 7, 19};
        for (int invoice : invoices) {
            TicketForge more = Plans.full();
            Inside.addToCredited(more, invoice, 1);
            notSettled("1 more credited for invoice " + invoice, more);
            TicketForge less = Plans.full();
            Inside.addToCredited(less, invoice, -1);
            notSettled("1 less credited for invoice " + invoice, less);
        }
    }

    static void moreHoursThanTheGreatestCapAreNotSettled() {
        char[] states = {'b', 'c'};
        for (char state : states) {
            TicketForge plan = Plans.entryIn(state);
            Inside.setGreatestCap(plan, 5);
            settled("5 hours of 5, in " + state, plan);
            Inside.setGreatestCap(plan, 4);
            notSettled("5 hours of 4, in " + state, plan);
        }
        TicketForge sum = sixtyHours();
        Inside.setGreatestCap(sum, 59);
        notSettled("40 and 20 hours of 59", sum);
    }

    static void onlyHoursThatAreBilledOrCreditedCount() {
        char[] states = {'n', 'a', 'x'};
        for (char state : states) {
            TicketForge plan = Plans.entryIn(state);
            Inside.setGreatestCap(plan, 0);
            settled("5 hours of 0, in " + state, plan);
        }
    }

    static void otherInvoicesAreNotInTheSumOfTheDiscount() {
        TicketForge plan = Plans.entryIn('a');
        Plans.work(plan, 0, 0, 1, 5);
        Plans.end(plan, 0);
        plan.setDiscount(251, 10);
        plan.invoice(0, 0);
        plan.invoice(0, 1);
        settled("two invoices without the discount", plan);
    }

    static void aNewPlanIsSettled() {
        settled("a new plan", new TicketForge());
    }

    static void aFullPlanIsSettled() {
        settled("a full plan", Plans.full());
    }

    static void entriesOfAllStatesAreSettled() {
        char[] states = {'n', 'a', 'b', 'c', 'x'};
        for (char state : states) {
            settled("one in " + state, Plans.entryIn(state));
        }
    }

    static void totalsAreTheSameByTheRulesThatWere() {
        TicketForge plan = Plans.entryIn('a');
        plan.setRate(0, 33);
        plan.setDiscount(165, 50);
        Plans.end(plan, 0);
        plan.invoice(0, 0);
        plan.setRate(0, 200);
        plan.setDiscount(0, 0);
        settled("an invoice by other rules", plan);
    }

    static void anInvoiceOfNothingBillableIsSettled() {
        TicketForge plan = Plans.entryIn('a');
        plan.setCap(0);
        Plans.end(plan, 0);
        plan.invoice(0, 0);
        settled("an empty invoice", plan);
    }

    static void whatIsCreditedIsTheSumOfTheCreditedPrices() {
        TicketForge plan = Plans.chain(2);
        for (int i = 0; i < 2; i++) {
            plan.begin(i);
            Plans.work(plan, i, 0, 0, 1 + i);
        }
        plan.setDiscount(0, 7);
        Plans.end(plan, 1);
        Plans.end(plan, 0);
        plan.invoice(0, 0);
        plan.reopen(0);
        settled("an invoice credited in part", plan);
        plan.reopen(1);
        settled("an invoice credited whole", plan);
    }

    static void theFirstCapIsOneThatThereWas() {
        TicketForge plan = Plans.oneInWork();
        Plans.work(plan, 0, 0, 0, 40);
        Plans.end(plan, 0);
        plan.invoice(0, 0);
        plan.setCap(0);
        settled("40 hours, with a cap of 0 now", plan);
    }

    static void theGreatestCapThatThereWasCounts() {
        TicketForge plan = sixtyHours();
        settled("60 hours at 60", plan);
        plan.setCap(59);
        settled("60 hours, with a cap of 59 now", plan);
        plan.setCap(0);
        settled("60 hours, with a cap of 0 now", plan);
    }

    static void creditedHoursCountForTheGreatestCap() {
        TicketForge plan = sixtyHours();
        plan.reopen(0);
        plan.setCap(0);
        settled("60 credited hours, with a cap of 0 now", plan);
    }

    static void hoursThatAreNotBilledDoNotCount() {
        TicketForge plan = Plans.oneInWork();
        for (int i = 0; i < 3; i++) {
            Plans.work(plan, 0, 0, 0, 40);
            plan.note(0, 1, 1, 40);
        }
        settled("80 hours approved", plan);
        Plans.end(plan, 0);
        plan.invoice(0, 0);
        Check.same("items(0)", plan.items(0), 1);
        settled("40 hours billed, 80 not billable", plan);
    }
}
