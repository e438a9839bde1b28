/** Promise 18: price. */
final class Promise18 {
    private Promise18() {
    }

    /** One entry of these hours, billed at this rate with this percentage less. */
    private static TicketForge billed(int hours, int rate, int percent) {
        TicketForge plan = Plans.oneInWork();
        plan.setRate(3, rate);
        plan.setDiscount(0, percent);
        Plans.work(plan, 0, 3, 29, hours);
        Plans.end(plan, 0);
        plan.invoice(0, 29);
        return plan;
    }

    static void aPriceOf0IsTold() {
        Check.same("price(0)", billed(40, 0, 0).price(0), 0);
        Check.same("price(0), with a discount", billed(40, 0, 50).price(0), 0);
    }

    static void theGreatestPriceIsTold() {
        Check.same("price(0)", billed(40, 200, 0).price(0), 8000);
        Check.same("price(0), with a discount", billed(40, 200, 50).price(0), 4000);
    }

    static void theLeastPriceIsRoundedDown() {
        Check.same("1 less 0 percent", billed(1, 1, 0).price(0), 1);
        Check.same("1 less 1 percent", billed(1, 1, 1).price(0), 0);
        Check.same("1 less 50 percent", billed(1, 1, 50).price(0), 0);
        Check.same("3 less 50 percent", billed(3, 1, 50).price(0), 1);
    }

    static void aPriceIsRoundedOnlyWhereItMustBe() {
        Check.same("100 less 1 percent", billed(1, 100, 1).price(0), 99);
        Check.same("99 less 1 percent, 98.01", billed(1, 99, 1).price(0), 98);
        Check.same("101 less 1 percent, 99.99", billed(1, 101, 1).price(0), 99);
        Check.same("200 less 49 percent", billed(1, 200, 49).price(0), 102);
    }

    static void anEntryThatIsNotBilledIsRefused() {
        Edge.refused("noted", Plans.STATE, () -> Plans.entryIn('n'), plan -> plan.price(0));
        Edge.refused("approved", Plans.STATE, () -> Plans.entryIn('a'), plan -> plan.price(0));
        Edge.refused("not billable", Plans.STATE, () -> Plans.entryIn('x'), plan -> plan.price(0));
        Edge.refused("over the cap", Plans.STATE, Promise18::overTheCap, plan -> plan.price(0));
    }

    private static TicketForge overTheCap() {
        TicketForge plan = Plans.entryIn('a');
        plan.setCap(4);
        Plans.end(plan, 0);
        plan.invoice(0, 0);
        return plan;
    }

    static void aCreditedEntryHasItsPriceStill() {
        Check.same("price(0)", Plans.entryIn('c').price(0), 250);
    }

    static void rulesThatAreSetLaterDoNotChangeIt() {
        TicketForge plan = Plans.entryIn('b');
        plan.setRate(0, 1);
        plan.setCap(0);
        plan.setDiscount(0, 50);
        Check.same("price(0)", plan.price(0), 250);
        plan.reopen(0);
        Check.same("price(0), credited", plan.price(0), 250);
    }

    static void noSuchEntryIsRefused() {
        Edge.noSuchEntry((plan, number) -> plan.price(number));
    }
}
