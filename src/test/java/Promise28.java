/** Promise 28: totalByRules. */
final class Promise28 {
    private Promise28() {
    }

    private static TicketForge approvedAtRate(int rate) {
        TicketForge plan = Plans.entryIn('a');
        plan.setRate(0, rate);
        Plans.end(plan, 0);
        return plan;
    }

    static void aTotalOf0IsTold() {
        TicketForge plan = approvedAtRate(0);
        plan.invoice(0, 0);
        Check.same("totalByRules(0)", plan.totalByRules(0), 0);
    }

    static void atTheSumTheDiscountIsGiven() {
        TicketForge plan = approvedAtRate(50);
        plan.setDiscount(250, 15);
        plan.invoice(0, 0);
        Check.same("totalByRules(0), 212.5", plan.totalByRules(0), 212);
    }

    static void belowTheSumTheDiscountIsNotGiven() {
        TicketForge plan = approvedAtRate(50);
        plan.setDiscount(251, 15);
        plan.invoice(0, 0);
        Check.same("totalByRules(0)", plan.totalByRules(0), 250);
    }

    static void otherInvoicesAreNotInTheSumOfTheDiscount() {
        TicketForge plan = Plans.oneInWork();
        Plans.work(plan, 0, 0, 0, 5);
        Plans.work(plan, 0, 0, 1, 5);
        Plans.end(plan, 0);
        plan.setDiscount(251, 10);
        plan.invoice(0, 0);
        plan.invoice(0, 1);
        Check.same("totalByRules(0)", plan.totalByRules(0), 250);
        Check.same("totalByRules(1)", plan.totalByRules(1), 250);
    }

    static void entriesThatAreNotBilledAreNotInTheSumOfTheDiscount() {
        TicketForge plan = Plans.oneInWork();
        Plans.work(plan, 0, 0, 0, 40);
        Plans.work(plan, 0, 0, 0, 1);
        Plans.work(plan, 0, 0, 1, 1);
        plan.note(0, 0, 0, 1);
        Plans.end(plan, 0);
        plan.setDiscount(2001, 10);
        plan.invoice(0, 0);
        Check.same("totalByRules(0)", plan.totalByRules(0), 2000);
    }

    static void creditedEntriesCount() {
        Check.same("totalByRules(0)", Plans.entryIn('c').totalByRules(0), 250);
    }

    static void creditedEntriesCountForTheSumOfTheDiscount() {
        TicketForge plan = Plans.chain(2);
        for (int i = 0; i < 2; i++) {
            plan.begin(i);
            Plans.work(plan, i, 0, 0, 5);
        }
        Plans.end(plan, 1);
        Plans.end(plan, 0);
        plan.setDiscount(500, 10);
        plan.invoice(0, 0);
        plan.reopen(0);
        Check.same("the states", "" + plan.entryState(0) + plan.entryState(1), "cb");
        Check.same("totalByRules(0)", plan.totalByRules(0), 450);
    }

    static void theRulesOfItsInvoiceCount() {
        TicketForge plan = approvedAtRate(33);
        plan.setDiscount(165, 50);
        plan.invoice(0, 0);
        plan.setRate(0, 200);
        plan.setCap(0);
        plan.setDiscount(0, 0);
        Check.same("totalByRules(0), 82.5", plan.totalByRules(0), 82);
    }

    static void theRulesBetweenTwoInvoicesStayApart() {
        TicketForge plan = Plans.oneInWork();
        Plans.work(plan, 0, 3, 0, 5);
        Plans.work(plan, 0, 3, 1, 5);
        Plans.end(plan, 0);
        plan.setRate(3, 10);
        plan.invoice(0, 0);
        plan.setRate(3, 20);
        plan.setDiscount(100, 10);
        plan.invoice(0, 1);
        plan.setDiscount(0, 50);
        Check.same("totalByRules(0)", plan.totalByRules(0), 50);
        Check.same("totalByRules(1)", plan.totalByRules(1), 90);
    }

    static void theFirstAndTheLastOf20AreTold() {
        TicketForge plan = Plans.full();
        Check.same("totalByRules(0), of 1 and 2 hours", plan.totalByRules(0), 150);
        Check.same("totalByRules(19), of 4 and 5 hours", plan.totalByRules(19), 450);
    }

    static void noSuchInvoiceIsRefused() {
        Edge.noSuchInvoice((plan, number) -> plan.totalByRules(number));
    }
}
