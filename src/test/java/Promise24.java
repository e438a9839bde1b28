/** Promise 24: setDiscount. */
final class Promise24 {
    private Promise24() {
    }

    /** A sum of 250 is to be invoiced, with 20 percent less from 250 on. */
    private static TicketForge from250() {
        TicketForge plan = Plans.entryIn('a');
        Plans.end(plan, 0);
        plan.setDiscount(250, 20);
        return plan;
    }

    /** A sum of 249 is to be invoiced, with 20 percent less from 250 on. */
    private static TicketForge oneBelow250() {
        TicketForge plan = Plans.oneInWork();
        plan.setRate(0, 83);
        Plans.work(plan, 0, 0, 0, 3);
        Plans.end(plan, 0);
        plan.setDiscount(250, 20);
        return plan;
    }

    /** 12 entries of 40 hours at 200, one of 39 at 100 and one at this rate: 99900 and the rate. */
    private static TicketForge sumOf99900And(int rate) {
        TicketForge plan = Plans.oneInWork();
        for (int i = 0; i < 12; i++) {
            Plans.work(plan, 0, 0, i, 40);
        }
        Plans.work(plan, 0, 1, 0, 39);
        Plans.work(plan, 0, 2, 0, 1);
        plan.setRate(0, 200);
        plan.setRate(1, 100);
        plan.setRate(2, rate);
        Plans.end(plan, 0);
        return plan;
    }

    private static int totalOf(TicketForge plan) {
        return plan.total(plan.invoice(0, 29));
    }

    static void thePercentageBeforeIsTold() {
        TicketForge plan = new TicketForge();
        Check.same("setDiscount(9, 50)", plan.setDiscount(9, 50), 0);
        Check.same("setDiscount(9, 0)", plan.setDiscount(9, 0), 50);
        Check.same("setDiscount(9, 1)", plan.setDiscount(9, 1), 0);
        Check.same("setDiscount(9, 1) again", plan.setDiscount(9, 1), 1);
    }

    static void fromASumOf0On() {
        TicketForge plan = Plans.oneInWork();
        plan.setRate(0, 1);
        Plans.work(plan, 0, 0, 0, 2);
        Plans.end(plan, 0);
        plan.setDiscount(0, 50);
        Check.same("2 less 50 percent", totalOf(plan), 1);
    }

    static void fromASumOf1On() {
        TicketForge plan = from250();
        plan.setDiscount(1, 50);
        Check.same("250 less 50 percent", totalOf(plan), 125);
    }

    static void fromASumOf99999On() {
        TicketForge exact = sumOf99900And(99);
        exact.setDiscount(99999, 50);
        Check.same("99999, each price less 50 percent", totalOf(exact), 49950 + 49);
        TicketForge more = sumOf99900And(100);
        more.setDiscount(99999, 50);
        Check.same("100000, each price less 50 percent", totalOf(more), 50000);
    }

    static void belowASumOf99999TheDiscountIsNotGiven() {
        TicketForge below = sumOf99900And(98);
        below.setDiscount(99999, 50);
        Check.same("99998", totalOf(below), 99998);
    }

    static void aSumOutsideIsRefused() {
        Edge.outside("from", Plans.ARGUMENT, 0, 99999, Promise24::from250, (plan, from) -> plan.setDiscount(from, 20));
        Edge.outside("from", Plans.ARGUMENT, 0, 99999, Promise24::oneBelow250,
            (plan, from) -> plan.setDiscount(from, 20));
    }

    static void aPercentageOf0IsTaken() {
        TicketForge plan = from250();
        plan.setDiscount(0, 0);
        Check.same("250 less 0 percent", totalOf(plan), 250);
    }

    static void aPercentageOf1IsTaken() {
        TicketForge plan = from250();
        plan.setDiscount(0, 1);
        Check.same("250 less 1 percent, 247.5", totalOf(plan), 247);
    }

    static void aPercentageOf50IsTaken() {
        TicketForge plan = from250();
        plan.setDiscount(0, 50);
        Check.same("250 less 50 percent", totalOf(plan), 125);
    }

    static void aPercentageOutsideIsRefused() {
        Edge.outside("percent", Plans.ARGUMENT, 0, 50, Promise24::from250,
            (plan, percent) -> plan.setDiscount(0, percent));
        Edge.outside("percent", Plans.ARGUMENT, 0, 50, Promise24::oneBelow250,
            (plan, percent) -> plan.setDiscount(0, percent));
    }

    static void bothOutsideAreRefused() {
        Edge.refused("setDiscount(-1, -1)", Plans.ARGUMENT, Promise24::from250, plan -> plan.setDiscount(-1, -1));
        Edge.refused("setDiscount(100000, 51)", Plans.ARGUMENT, Promise24::from250,
            plan -> plan.setDiscount(100000, 51));
    }

    static void aRefusedDiscountChangesNeitherSumNorPercentage() {
        TicketForge plan = from250();
        Check.thrownBy(() -> plan.setDiscount(251, 51));
        Check.thrownBy(() -> plan.setDiscount(100000, 0));
        Check.same("250 less 20 percent still", totalOf(plan), 200);
        TicketForge below = oneBelow250();
        Check.thrownBy(() -> below.setDiscount(0, 51));
        Check.thrownBy(() -> below.setDiscount(-1, 50));
        Check.same("249, below 250 still", totalOf(below), 249);
    }

    static void invoicesThatAreMadeStayAsTheyAre() {
        TicketForge plan = Plans.entryIn('b');
        plan.setDiscount(0, 50);
        Check.same("total(0)", plan.total(0), 250);
        Check.same("totalByRules(0)", plan.totalByRules(0), 250);
    }
}
