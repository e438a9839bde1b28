/** Promise 22: setRate. */
final class Promise22 {
    private Promise22() {
    }

    /** An approved entry of an hour for each person, in a task that is done. */
    private static TicketForge fourPersons() {
        TicketForge plan = Plans.oneInWork();
        for (int person = 0; person < 4; person++) {
            Plans.work(plan, 0, person, 0, 1);
        }
        Plans.end(plan, 0);
        return plan;
    }

    static void theFirstAndTheLastPersonAreTaken() {
        TicketForge plan = fourPersons();
        Check.same("setRate(0, 7)", plan.setRate(0, 7), 50);
        Check.same("setRate(3, 9)", plan.setRate(3, 9), 50);
        plan.invoice(0, 0);
        int[] prices = {7, 50, 50, 9};
        for (int i = 0; i < 4; i++) {
            Check.same("price(" + i + ")", plan.price(i), prices[i]);
        }
    }

    static void aPersonOutsideIsRefused() {
        Edge.outside("person", Plans.ARGUMENT, 0, 3, Promise22::fourPersons, (plan, person) -> plan.setRate(person, 9));
    }

    static void aRateOf0IsTaken() {
        TicketForge plan = fourPersons();
        plan.setRate(1, 0);
        Check.same("setRate(1, 9)", plan.setRate(1, 9), 0);
        plan.setRate(1, 0);
        plan.invoice(0, 0);
        Check.same("price(1)", plan.price(1), 0);
        Check.same("entryState(1)", plan.entryState(1), 'b');
    }

    static void aRateOf200IsTaken() {
        TicketForge plan = fourPersons();
        plan.setRate(1, 200);
        Check.same("setRate(1, 9)", plan.setRate(1, 9), 200);
        plan.setRate(1, 200);
        plan.invoice(0, 0);
        Check.same("price(1)", plan.price(1), 200);
    }

    static void aRateOutsideIsRefused() {
        Edge.outside("rate", Plans.ARGUMENT, 0, 200, Promise22::fourPersons, (plan, rate) -> plan.setRate(2, rate));
    }

    static void bothOutsideAreRefused() {
        Edge.refused("setRate(4, 201)", Plans.ARGUMENT, TicketForge::new, plan -> plan.setRate(4, 201));
        Edge.refused("setRate(-1, -1)", Plans.ARGUMENT, TicketForge::new, plan -> plan.setRate(-1, -1));
    }

    static void theSameRateAgainIsTaken() {
        TicketForge plan = new TicketForge();
        Check.same("setRate(0, 50)", plan.setRate(0, 50), 50);
        Check.same("setRate(0, 50) again", plan.setRate(0, 50), 50);
    }

    static void theRateOfTheInvoiceCountsNotThatOfTheNote() {
        TicketForge plan = Plans.entryIn('a');
        plan.setRate(0, 3);
        Plans.end(plan, 0);
        plan.invoice(0, 0);
        Check.same("price(0)", plan.price(0), 15);
    }
}
