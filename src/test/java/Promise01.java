/** Promise 1: a new object. */
final class Promise01 {
    private Promise01() {
    }

    static void itHasNoTasks() {
        Check.same("tasks()", new TicketForge().tasks(), 0);
        Edge.refused("state(0)", Plans.INDEX, TicketForge::new, plan -> plan.state(0));
    }

    static void itHasNoEntries() {
        Check.same("entries()", new TicketForge().entries(), 0);
        Edge.refused("entryState(0)", Plans.NO_SUCH, TicketForge::new, plan -> plan.entryState(0));
    }

    static void itHasNoInvoices() {
        Check.same("invoices()", new TicketForge().invoices(), 0);
        Edge.refused("total(0)", Plans.NO_SUCH, TicketForge::new, plan -> plan.total(0));
    }

    static void theRatesAre50() {
        TicketForge plan = new TicketForge();
        for (int person = 0; person < 4; person++) {
            Check.same("rate of " + person, plan.setRate(person, 0), 50);
        }
        Check.same("the price of 5 hours", Plans.entryIn('b').price(0), 250);
    }

    static void theCapIs40() {
        Check.same("setCap", new TicketForge().setCap(0), 40);
        TicketForge plan = Plans.oneInWork();
        Plans.work(plan, 0, 0, 0, 40);
        Plans.work(plan, 0, 1, 0, 39);
        Plans.work(plan, 0, 1, 0, 2);
        Plans.end(plan, 0);
        plan.invoice(0, 0);
        Check.same("40 hours", plan.entryState(0), 'b');
        Check.same("39 hours", plan.entryState(1), 'b');
        Check.same("41 hours", plan.entryState(2), 'x');
    }

    static void theDiscountIs0Percent() {
        Check.same("setDiscount", new TicketForge().setDiscount(0, 50), 0);
        Check.same("the total", Plans.entryIn('b').total(0), 250);
    }

    static void noWeekIsLocked() {
        TicketForge plan = new TicketForge();
        for (int week = 0; week < 30; week++) {
            Check.same("lock(" + week + ")", plan.lock(week), 0);
        }
    }

    static void nothingIsReckoned() {
        TicketForge plan = new TicketForge();
        for (int week = 0; week < 30; week++) {
            Check.same("pace(" + week + ")", plan.pace(week), 0.0f);
        }
        Check.same("due()", plan.due(), 0L);
        Check.same("isSettled()", plan.isSettled(), true);
        Edge.refused("meanPrice()", Plans.ARITHMETIC, TicketForge::new, TicketForge::meanPrice);
    }

    static void twoObjectsAreApart() {
        TicketForge untouched = new TicketForge();
        Plans.full().setCap(3);
        for (Probe probe : Probe.values()) {
            TicketForge plan = new TicketForge();
            Plans.full();
            Check.same(probe + " beside a full plan", probe.of(plan), probe.of(new TicketForge()));
        }
        Check.same("the cap beside one that set it", untouched.setCap(0), 40);
    }

    /** "An object is used for at most 512 calls": the last one still answers. */
    static void the512thCallIsAnswered() {
        TicketForge plan = new TicketForge();
        plan.addTask(-1, 400, 0);
        plan.begin(0);
        for (int call = 3; call <= 62; call++) {
            plan.note(0, call % 4, call % 30, 1);
        }
        for (int call = 63; call <= 511; call += 2) {
            Check.same("propose, call " + call, plan.propose(0), 1);
            if (call < 511) {
                Check.same("reject, call " + (call + 1), plan.reject(0), 0);
            }
        }
        Check.same("merge, call 512", plan.merge(0), 1);
    }
}
