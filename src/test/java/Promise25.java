/** Promise 25: invoice. The ends of the cap's and the discount's ranges are in Promise23 and Promise24. */
final class Promise25 {
    private Promise25() {
    }

    /** A task that is done, with approved entries of these hours, one a week from week 0 on, of person 0. */
    private static TicketForge weeks(int... hours) {
        TicketForge plan = Plans.oneInWork();
        for (int week = 0; week < hours.length; week++) {
            Plans.work(plan, 0, 0, week, hours[week]);
        }
        Plans.end(plan, 0);
        return plan;
    }

    /** A task that is done, with approved entries of these hours, all of person 0 in week 0. */
    private static TicketForge oneWeek(int... hours) {
        TicketForge plan = Plans.oneInWork();
        for (int each : hours) {
            Plans.work(plan, 0, 0, 0, each);
        }
        Plans.end(plan, 0);
        return plan;
    }

    /** The task 0 is reopened, gets an approved entry, and is done again. */
    private static void addWork(TicketForge plan, int person, int week, int hours) {
        plan.reopen(0);
        Plans.work(plan, 0, person, week, hours);
        Plans.end(plan, 0);
    }

    private static String states(TicketForge plan) {
        StringBuilder states = new StringBuilder();
        for (int i = 0; i < plan.entries(); i++) {
            states.append(plan.entryState(i));
        }
        return states.toString();
    }

    private static TicketForge doneWithEntryIn(char state) {
        TicketForge plan = Plans.entryIn(state);
        if (plan.state(0) != 'd') {
            Plans.end(plan, 0);
        }
        return plan;
    }

    /** 20 invoices are made, of a week each, and one more week is approved. */
    private static TicketForge twenty() {
        TicketForge plan = weeks(1, 1, 1, 1, 1, 1, 1, 1, 1, 1, 1, 1, 1, 1, 1, 1, 1, 1, 1, 1, 1);
        for (int week = 0; week < 20; week++) {
            Check.same("invoice", plan.invoice(0, week), week);
        }
        return plan;
    }

    /** A chain of two that is done, with an approved entry for each. */
    private static TicketForge doneChain() {
        TicketForge plan = Plans.chain(2);
        for (int i = 1; i >= 0; i--) {
            plan.begin(i);
            Plans.work(plan, i, i, 0, 3 + i);
            Plans.end(plan, i);
        }
        return plan;
    }

    static void theFirstInvoiceIsNumber0() {
        Check.same("invoice", weeks(3).invoice(0, 0), 0);
    }

    static void the20thInvoiceIsTaken() {
        TicketForge plan = twenty();
        Check.same("total(19)", plan.total(19), 50);
        Check.same("invoices()", plan.invoices(), 20);
    }

    static void a21stInvoiceIsRefused() {
        Edge.refused("a 21st invoice", Plans.STATE, Promise25::twenty, plan -> plan.invoice(0, 20));
        Edge.refused("a 21st invoice, in a full plan", Plans.STATE, Plans::full, plan -> plan.invoice(0, 29));
    }

    static void a21stInvoiceLeavesHoursOverTheCapAsTheyAre() {
        Edge.refused("a 21st invoice", Plans.STATE, Promise25::twentyAndOverTheCap, plan -> plan.invoice(0, 29));
    }

    private static TicketForge twentyAndOverTheCap() {
        TicketForge plan = twenty();
        plan.setCap(0);
        return plan;
    }

    static void creditedInvoicesAreOfThe20() {
        Edge.refused("a 21st invoice", Plans.STATE, Promise25::twentyCredited, plan -> plan.invoice(0, 20));
    }

    private static TicketForge twentyCredited() {
        TicketForge plan = twenty();
        plan.reopen(0);
        Plans.end(plan, 0);
        return plan;
    }

    static void noSuchTaskIsRefused() {
        Edge.noSuchTask((plan, number) -> plan.invoice(number, 0));
    }

    static void week0IsTaken() {
        TicketForge plan = weeks(3, 4);
        plan.invoice(0, 0);
        Check.same("the states", states(plan), "ba");
    }

    static void week29IsTaken() {
        TicketForge plan = Plans.oneInWork();
        Plans.work(plan, 0, 0, 28, 3);
        Plans.work(plan, 0, 0, 29, 4);
        Plans.end(plan, 0);
        plan.invoice(0, 29);
        Check.same("the states", states(plan), "bb");
    }

    static void noSuchWeekIsRefused() {
        Edge.noSuchWeek(() -> weeks(3), (plan, week) -> plan.invoice(0, week));
    }

    static void aTaskWithAParentIsRefused() {
        Edge.refused("invoice(1, 29)", Plans.UNSUPPORTED, Promise25::doneChain, plan -> plan.invoice(1, 29));
        Edge.refused("invoice(7, 29)", Plans.UNSUPPORTED, Plans::full, plan -> plan.invoice(7, 29));
    }

    static void aTaskWithoutAParentIsTaken() {
        Check.same("the top of a chain", doneChain().invoice(0, 29), 0);
        TicketForge plan = Plans.open(16);
        plan.begin(15);
        Plans.work(plan, 15, 0, 0, 1);
        Plans.end(plan, 15);
        Check.same("the last of 16", plan.invoice(15, 29), 0);
    }

    static void withoutEntriesItIsRefused() {
        Edge.refused("open", Plans.STATE, () -> Plans.open(1), plan -> plan.invoice(0, 29));
        Edge.refused("done", Plans.STATE, () -> Plans.taskIn('d'), plan -> plan.invoice(0, 29));
    }

    static void entriesThatAreNotApprovedAreNotLookedAt() {
        char[] states = {'n', 'b', 'c', 'x'};
        for (char state : states) {
            Edge.refused("one in " + state, Plans.STATE, () -> doneWithEntryIn(state), plan -> plan.invoice(0, 29));
        }
    }

    static void entriesOfTasksThatAreNotDoneAreNotLookedAt() {
        Edge.refused("in work", Plans.STATE, () -> Plans.entryIn('a'), plan -> plan.invoice(0, 29));
        Edge.refused("in review", Plans.STATE, Promise25::approvedInReview, plan -> plan.invoice(0, 29));
        Edge.refused("reopened", Plans.STATE, Promise25::approvedReopened, plan -> plan.invoice(0, 29));
    }

    private static TicketForge approvedInReview() {
        TicketForge plan = Plans.entryIn('a');
        plan.propose(0);
        return plan;
    }

    private static TicketForge approvedReopened() {
        TicketForge plan = weeks(3);
        plan.reopen(0);
        return plan;
    }

    static void anEntryOfTheWeekBehindIsNotLookedAt() {
        Edge.refused("week 4 of 5", Plans.STATE, () -> weeksAt(5), plan -> plan.invoice(0, 4));
        Edge.refused("week 28 of 29", Plans.STATE, () -> weeksAt(29), plan -> plan.invoice(0, 28));
        Edge.refused("week 0 of 1", Plans.STATE, () -> weeksAt(1), plan -> plan.invoice(0, 0));
        Check.same("week 5 of 5", weeksAt(5).invoice(0, 5), 0);
        Check.same("week 6 of 5", weeksAt(5).invoice(0, 6), 0);
    }

    private static TicketForge weeksAt(int week) {
        TicketForge plan = Plans.oneInWork();
        Plans.work(plan, 0, 0, week, 3);
        Plans.end(plan, 0);
        return plan;
    }

    static void entriesOfAnotherTreeAreNotLookedAt() {
        Edge.refused("another tree", Plans.STATE, Promise25::anotherTree, plan -> plan.invoice(1, 29));
    }

    private static TicketForge anotherTree() {
        TicketForge plan = weeks(3);
        plan.addTask(-1, 5, 0);
        return plan;
    }

    static void entriesOfTheWholeTreeAreLookedAt() {
        TicketForge plan = Plans.chain(16);
        plan.begin(15);
        Plans.work(plan, 15, 0, 0, 1);
        Plans.end(plan, 15);
        Check.same("invoice(0, 0), of an open top", plan.invoice(0, 0), 0);
        Check.same("entryState(0)", plan.entryState(0), 'b');
    }

    static void aTaskOfTheTreeThatIsNotDoneIsLeftOut() {
        TicketForge plan = Plans.chain(2);
        for (int i = 0; i < 2; i++) {
            plan.begin(i);
            Plans.work(plan, i, 0, 0, 1);
        }
        Plans.end(plan, 1);
        plan.invoice(0, 0);
        Check.same("the states", states(plan), "ab");
        Check.same("total(0)", plan.total(0), 50);
    }

    static void hoursUpToTheCapAreBilled() {
        TicketForge plan = oneWeek(40);
        plan.invoice(0, 0);
        Check.same("40 hours", states(plan), "b");
        TicketForge two = oneWeek(30, 10);
        two.invoice(0, 0);
        Check.same("30 and 10 hours", states(two), "bb");
    }

    static void oneHourOverTheCapIsNotBillable() {
        TicketForge plan = oneWeek(30, 11);
        plan.invoice(0, 0);
        Check.same("30 and 11 hours", states(plan), "bx");
        TicketForge full = oneWeek(40, 1);
        full.invoice(0, 0);
        Check.same("40 and 1 hours", states(full), "bx");
    }

    static void risingNumbersComeFirst() {
        TicketForge plan = oneWeek(20, 21, 20, 1);
        plan.invoice(0, 0);
        Check.same("the states", states(plan), "bxbx");
        TicketForge tree = doneChain();
        tree.setCap(4);
        tree.setRate(0, 1);
        tree.invoice(0, 0);
        Check.same("total(0), 4 and 3 hours of two persons", tree.total(0), 4 * 50 + 3);
    }

    static void risingNumbersComeFirstWhateverTheWeek() {
        TicketForge plan = Plans.oneInWork();
        Plans.work(plan, 0, 0, 5, 30);
        Plans.work(plan, 0, 0, 2, 30);
        Plans.work(plan, 0, 0, 2, 20);
        Plans.work(plan, 0, 0, 5, 10);
        Plans.end(plan, 0);
        plan.invoice(0, 29);
        Check.same("the states", states(plan), "bbxb");
    }

    static void eachPersonHasACapOfItsOwn() {
        TicketForge plan = Plans.oneInWork();
        for (int person = 0; person < 4; person++) {
            Plans.work(plan, 0, person, 0, 40);
        }
        Plans.end(plan, 0);
        plan.invoice(0, 0);
        Check.same("the states", states(plan), "bbbb");
    }

    static void eachWeekHasACapOfItsOwn() {
        TicketForge plan = weeks(40, 40, 40);
        plan.invoice(0, 2);
        Check.same("the states", states(plan), "bbb");
    }

    static void hoursOfEarlierInvoicesCountForTheCap() {
        TicketForge plan = anotherTree();
        plan.invoice(0, 0);
        plan.begin(1);
        Plans.work(plan, 1, 0, 0, 37);
        Plans.work(plan, 1, 0, 0, 1);
        Plans.end(plan, 1);
        plan.invoice(1, 0);
        Check.same("3, 37 and 1 hours", states(plan), "bbx");
    }

    static void creditedHoursCountForTheCap() {
        TicketForge plan = oneWeek(30);
        plan.invoice(0, 0);
        addWork(plan, 0, 0, 11);
        addWork(plan, 0, 0, 10);
        plan.invoice(0, 0);
        Check.same("30, 11 and 10 hours", states(plan), "cxb");
    }

    static void hoursThatAreNotBillableDoNotCountForTheCap() {
        TicketForge plan = oneWeek(40);
        plan.setCap(39);
        plan.invoice(0, 0);
        addWork(plan, 0, 0, 39);
        plan.invoice(0, 0);
        Check.same("40 and 39 hours", states(plan), "xb");
    }

    static void hoursThatAreNotBilledYetDoNotCountForTheCap() {
        TicketForge plan = Plans.oneInWork();
        plan.note(0, 0, 0, 40);
        Plans.work(plan, 0, 0, 0, 40);
        plan.addTask(-1, 5, 0);
        plan.begin(1);
        Plans.work(plan, 1, 0, 0, 40);
        Plans.end(plan, 0);
        plan.invoice(0, 0);
        Check.same("the states", states(plan), "nba");
    }

    static void aCapThatWasLoweredBinds() {
        TicketForge plan = oneWeek(40);
        plan.invoice(0, 0);
        plan.setCap(10);
        addWork(plan, 0, 0, 1);
        addWork(plan, 1, 0, 10);
        addWork(plan, 2, 0, 11);
        plan.invoice(0, 0);
        Check.same("the states", states(plan), "cxbx");
    }

    static void whatIsNotBillableStaysSo() {
        Edge.refused("with a greater cap", Plans.STATE, Promise25::overTheCapThenRaised, plan -> plan.invoice(0, 29));
    }

    private static TicketForge overTheCapThenRaised() {
        TicketForge plan = oneWeek(5);
        plan.setCap(4);
        plan.invoice(0, 29);
        plan.setCap(60);
        return plan;
    }

    static void anInvoiceOfNothingBillableIsMade() {
        TicketForge plan = oneWeek(5);
        plan.setCap(4);
        Check.same("invoice", plan.invoice(0, 0), 0);
        Check.same("the states", states(plan), "x");
        Check.same("invoices()", plan.invoices(), 1);
        Check.same("items(0)", plan.items(0), 0);
        Check.same("total(0)", plan.total(0), 0);
    }

    static void thePriceIsTheHoursTimesTheRate() {
        TicketForge plan = oneWeek(1, 39);
        plan.setRate(0, 199);
        plan.invoice(0, 0);
        Check.same("price(0)", plan.price(0), 199);
        Check.same("price(1)", plan.price(1), 39 * 199);
        Check.same("total(0)", plan.total(0), 40 * 199);
    }

    static void atTheSumTheDiscountIsGiven() {
        TicketForge plan = oneWeek(5, 5);
        plan.setDiscount(500, 10);
        plan.invoice(0, 0);
        Check.same("total(0)", plan.total(0), 450);
        Check.same("price(0)", plan.price(0), 225);
    }

    static void belowTheSumTheDiscountIsNotGiven() {
        TicketForge plan = oneWeek(5, 5);
        plan.setDiscount(501, 10);
        plan.invoice(0, 0);
        Check.same("total(0)", plan.total(0), 500);
        Check.same("price(1)", plan.price(1), 250);
    }

    static void whatIsNotBillableIsNotInTheSum() {
        TicketForge plan = oneWeek(30, 11);
        plan.setDiscount(1501, 10);
        plan.invoice(0, 0);
        Check.same("total(0)", plan.total(0), 1500);
    }

    static void otherInvoicesAreNotInTheSum() {
        TicketForge plan = weeks(5, 5);
        plan.setDiscount(251, 10);
        plan.invoice(0, 0);
        plan.invoice(0, 1);
        Check.same("total(0)", plan.total(0), 250);
        Check.same("total(1)", plan.total(1), 250);
    }

    static void theDiscountOfALaterInvoiceLeavesEarlierPrices() {
        TicketForge plan = weeks(5, 6);
        plan.setDiscount(300, 10);
        plan.invoice(0, 0);
        plan.invoice(0, 1);
        Check.same("price(0)", plan.price(0), 250);
        Check.same("price(1)", plan.price(1), 270);
    }

    static void eachPriceIsRoundedDown() {
        TicketForge plan = oneWeek(1, 1, 1);
        plan.setRate(0, 33);
        plan.setDiscount(99, 10);
        plan.invoice(0, 0);
        Check.same("price(2), 29.7", plan.price(2), 29);
        Check.same("total(0), not 89", plan.total(0), 87);
    }

    static void theGreatestTotalIsReached() {
        TicketForge plan = Plans.oneInWork();
        for (int i = 0; i < 60; i++) {
            Plans.work(plan, 0, i % 4, i / 4, 40);
        }
        for (int person = 0; person < 4; person++) {
            plan.setRate(person, 200);
        }
        Plans.end(plan, 0);
        plan.invoice(0, 29);
        Check.same("total(0)", plan.total(0), 60 * 40 * 200);
        Check.same("totalByRules(0)", plan.totalByRules(0), 60 * 40 * 200);
        Check.same("items(0)", plan.items(0), 60);
    }

    static void noSuchTaskComesAheadOfTheWeek() {
        Edge.refused("task and week", Plans.INDEX, () -> Plans.chain(2), plan -> plan.invoice(2, 30));
        Edge.refused("task and week", Plans.INDEX, () -> Plans.chain(2), plan -> plan.invoice(-1, -1));
    }

    static void noSuchTaskComesAheadOf20Invoices() {
        Edge.refused("task and invoices", Plans.INDEX, Promise25::twenty, plan -> plan.invoice(1, 20));
    }

    static void noSuchWeekComesAheadOfTheParent() {
        Edge.refused("week and parent", Plans.ARGUMENT, () -> Plans.chain(2), plan -> plan.invoice(1, 30));
    }

    static void noSuchWeekComesAheadOfNoEntryAnd20Invoices() {
        Edge.refused("week and entries", Plans.ARGUMENT, () -> Plans.chain(2), plan -> plan.invoice(0, -1));
        Edge.refused("week and invoices", Plans.ARGUMENT, Promise25::twenty, plan -> plan.invoice(0, 30));
    }

    static void theParentComesAheadOfNoEntryAnd20Invoices() {
        Edge.refused("parent and entries", Plans.UNSUPPORTED, () -> Plans.chain(2), plan -> plan.invoice(1, 0));
        Edge.refused("parent and invoices", Plans.UNSUPPORTED, Plans::full, plan -> plan.invoice(1, 29));
    }
}
