/** Promises 22 to 31: rules and invoices. */
final class InvoicesTest {
    private InvoicesTest() {
    }

    public static void main(String[] args) {
        setRate();
        setCap();
        setDiscount();
        invoice();
        invoiceLooksAtDoneTasksOfTheTree();
        invoiceLooksAtWeeksAndApprovedEntries();
        invoiceRefuses();
        invoiceRefusesInOrder();
        invoiceLimit();
        invoiceKeepsTheCap();
        invoiceCountsCreditedHoursForTheCap();
        invoiceOfNothingBillable();
        invoiceGivesTheDiscount();
        invoiceRoundsEachPriceDown();
        invoices();
        totalsKeepTheRulesOfTheirInvoice();
        totalRefuses();
        credited();
        creditedByTasks();
        items();
        invoiceOf();
        Check.finish("InvoicesTest");
    }

    /** A task that is done, with one approved entry of these hours for each person from 0 on, in week 0. */
    private static TicketForge worked(int... hours) {
        TicketForge plan = Plans.oneInWork();
        for (int person = 0; person < hours.length; person++) {
            Plans.work(plan, 0, person, 0, hours[person]);
        }
        Plans.end(plan, 0);
        return plan;
    }

    private static void setRate() {
        TicketForge plan = worked(1, 1, 1, 1);
        Check.same("rate of 0", plan.setRate(0, 0), 50);
        Check.same("rate of 3", plan.setRate(3, 200), 50);
        Check.same("rate of 3 again", plan.setRate(3, 199), 200);
        Check.same("rate of 0 again", plan.setRate(0, 1), 0);
        Check.same("rate of 1", plan.setRate(1, 60), 50);
        for (int never : Plans.NEVER) {
            Check.refused("person never", Plans.ARGUMENT, plan, () -> plan.setRate(never, 9));
        }
        Check.refused("person 4", Plans.ARGUMENT, plan, () -> plan.setRate(4, 9));
        for (int rate : new int[] {-1, 201, Integer.MIN_VALUE, Integer.MAX_VALUE}) {
            Check.refused("rate " + rate, Plans.ARGUMENT, plan, () -> plan.setRate(2, rate));
        }
        plan.invoice(0, 0);
        int[] due = {1, 60, 50, 199};
        for (int i = 0; i < due.length; i++) {
            Check.same("price(" + i + ")", plan.price(i), due[i]);
        }
    }

    private static void setCap() {
        TicketForge plan = worked(10, 11);
        Check.same("cap before", plan.setCap(0), 40);
        Check.same("cap before, 0", plan.setCap(60), 0);
        Check.same("cap before, 60", plan.setCap(10), 60);
        for (int cap : new int[] {-1, 61, Integer.MIN_VALUE, Integer.MAX_VALUE}) {
            Check.refused("cap " + cap, Plans.ARGUMENT, plan, () -> plan.setCap(cap));
        }
        plan.invoice(0, 0);
        Check.same("as much as the cap", plan.entryState(0), 'b');
        Check.same("more than the cap", plan.entryState(1), 'x');
        Check.same("cap before, 10", plan.setCap(1), 10);
    }

    private static void setDiscount() {
        TicketForge plan = worked(10);
        Check.same("percentage before", plan.setDiscount(99999, 50), 0);
        Check.same("percentage before, 50", plan.setDiscount(0, 0), 50);
        Check.same("percentage before, 0", plan.setDiscount(500, 20), 0);
        for (int from : new int[] {-1, 100000, Integer.MIN_VALUE, Integer.MAX_VALUE}) {
            Check.refused("from " + from, Plans.ARGUMENT, plan, () -> plan.setDiscount(from, 1));
        }
        for (int percent : new int[] {-1, 51, Integer.MIN_VALUE, Integer.MAX_VALUE}) {
            Check.refused("percent " + percent, Plans.ARGUMENT, plan, () -> plan.setDiscount(501, percent));
        }
        plan.invoice(0, 0);
        Check.same("the discount that was set last", plan.total(0), 400);
    }

    private static void invoice() {
        TicketForge plan = worked(4, 5);
        Check.same("first invoice", plan.invoice(0, 29), 0);
        Check.same("entry 0", plan.entryState(0), 'b');
        Check.same("entry 1", plan.entryState(1), 'b');
        Check.same("price(0)", plan.price(0), 200);
        Check.same("price(1)", plan.price(1), 250);
        Check.same("total(0)", plan.total(0), 450);
        Check.refused("billed once", Plans.STATE, plan, () -> plan.invoice(0, 29));
        plan.reopen(0);
        Plans.work(plan, 0, 0, 0, 6);
        Plans.end(plan, 0);
        Check.same("second invoice", plan.invoice(0, 29), 1);
        Check.same("credited ones are not billed again", plan.items(1), 1);
        Check.same("total(1)", plan.total(1), 300);
    }

    private static void invoiceLooksAtDoneTasksOfTheTree() {
        TicketForge plan = new TicketForge();
        plan.addTask(-1, 5, 0);
        plan.addTask(0, 5, 0);
        plan.addTask(1, 5, 0);
        plan.addTask(-1, 5, 0);
        plan.addTask(0, 5, 0);
        for (int i = 0; i < 5; i++) {
            plan.begin(i);
            Plans.work(plan, i, 0, i, 1 + i);
        }
        Plans.end(plan, 2);
        Plans.end(plan, 3);
        plan.propose(4);
        plan.invoice(0, 29);
        Check.same("in work, the root", plan.entryState(0), 'a');
        Check.same("in work", plan.entryState(1), 'a');
        Check.same("done, below others", plan.entryState(2), 'b');
        Check.same("done, in another tree", plan.entryState(3), 'a');
        Check.same("in review", plan.entryState(4), 'a');
        plan.merge(4);
        Plans.end(plan, 1);
        Plans.end(plan, 0);
        plan.invoice(0, 29);
        Check.same("the rest of the tree", plan.items(1), 3);
        Check.same("another tree still", plan.entryState(3), 'a');
    }

    private static void invoiceLooksAtWeeksAndApprovedEntries() {
        TicketForge plan = Plans.oneInWork();
        Plans.work(plan, 0, 0, 4, 1);
        Plans.work(plan, 0, 0, 5, 2);
        Plans.work(plan, 0, 0, 6, 3);
        plan.note(0, 0, 5, 4);
        plan.note(0, 0, 3, 5);
        plan.lock(3);
        Plans.end(plan, 0);
        Check.refused("weeks ahead of all", Plans.STATE, plan, () -> plan.invoice(0, 3));
        plan.invoice(0, 5);
        Check.same("a week ahead", plan.entryState(0), 'b');
        Check.same("this week", plan.entryState(1), 'b');
        Check.same("a later week", plan.entryState(2), 'a');
        Check.same("noted", plan.entryState(3), 'n');
        Check.same("not billable", plan.entryState(4), 'x');
        plan.approve(3);
        plan.invoice(0, 6);
        Check.same("approved later", plan.entryState(3), 'b');
        Check.same("total(1)", plan.total(1), 350);
    }

    private static void invoiceRefuses() {
        TicketForge plan = worked(4);
        plan.addTask(-1, 5, 0);
        plan.addTask(1, 5, 0);
        Check.refused("invoice(3,..)", Plans.INDEX, plan, () -> plan.invoice(3, 0));
        Check.refused("week 30", Plans.ARGUMENT, plan, () -> plan.invoice(0, 30));
        for (int never : Plans.NEVER) {
            Check.refused("task never", Plans.INDEX, plan, () -> plan.invoice(never, 0));
            Check.refused("week never", Plans.ARGUMENT, plan, () -> plan.invoice(0, never));
        }
        Check.refused("a task with a parent", Plans.UNSUPPORTED, plan, () -> plan.invoice(2, 0));
        Check.refused("without entries", Plans.STATE, plan, () -> plan.invoice(1, 29));
    }

    private static void invoiceRefusesInOrder() {
        TicketForge plan = Plans.open(1);
        plan.addTask(0, 5, 0);
        Check.refused("task ahead of the week", Plans.INDEX, plan, () -> plan.invoice(2, 30));
        Check.refused("week ahead of the parent", Plans.ARGUMENT, plan, () -> plan.invoice(1, 30));
        Check.refused("parent ahead of entries", Plans.UNSUPPORTED, plan, () -> plan.invoice(1, 29));
    }

    private static void invoiceLimit() {
        TicketForge plan = Plans.oneInWork();
        plan.addTask(0, 5, 0);
        for (int i = 0; i < 21; i++) {
            Plans.work(plan, 0, 0, i, 1 + i);
        }
        Plans.beginAndEnd(plan, 1);
        Plans.end(plan, 0);
        for (int i = 0; i < 20; i++) {
            Check.same("invoice " + i, plan.invoice(0, i), i);
        }
        Check.refused("a 21st invoice", Plans.STATE, plan, () -> plan.invoice(0, 20));
        Check.refused("a 21st invoice, a child", Plans.UNSUPPORTED, plan, () -> plan.invoice(1, 20));
        Check.refused("a 21st invoice, no week", Plans.ARGUMENT, plan, () -> plan.invoice(0, 30));
        Check.same("the last total", plan.total(19), 1000);
        Check.same("due", plan.due(), 10500L);
    }

    private static void invoiceKeepsTheCap() {
        TicketForge plan = Plans.oneInWork();
        Plans.work(plan, 0, 0, 0, 30);
        Plans.work(plan, 0, 0, 0, 11);
        Plans.work(plan, 0, 0, 0, 10);
        Plans.work(plan, 0, 0, 0, 1);
        Plans.work(plan, 0, 1, 0, 40);
        Plans.work(plan, 0, 0, 1, 40);
        Plans.end(plan, 0);
        plan.invoice(0, 29);
        String states = "";
        for (int i = 0; i < 6; i++) {
            states += plan.entryState(i);
        }
        Check.same("by rising numbers, as far as they fit", states, "bxbxbb");
        Check.same("items", plan.items(0), 4);
        Check.same("total", plan.total(0), 6000);
        plan.setCap(60);
        Check.refused("not billable for good", Plans.STATE, plan, () -> plan.invoice(0, 29));
    }

    private static void invoiceCountsCreditedHoursForTheCap() {
        TicketForge plan = worked(30);
        plan.invoice(0, 0);
        plan.reopen(0);
        Plans.work(plan, 0, 0, 0, 11);
        Plans.work(plan, 0, 0, 0, 10);
        Plans.end(plan, 0);
        plan.invoice(0, 0);
        Check.same("with credited hours over the cap", plan.entryState(1), 'x');
        Check.same("with credited hours at the cap", plan.entryState(2), 'b');
        plan.addTask(-1, 5, 0);
        plan.begin(1);
        Plans.work(plan, 1, 0, 0, 1);
        Plans.end(plan, 1);
        plan.invoice(1, 0);
        Check.same("hours of other trees count too", plan.entryState(3), 'x');
    }

    private static void invoiceOfNothingBillable() {
        TicketForge plan = worked(5);
        plan.setCap(4);
        plan.setDiscount(0, 50);
        Check.same("an invoice all the same", plan.invoice(0, 0), 0);
        Check.same("items", plan.items(0), 0);
        Check.same("total", plan.total(0), 0);
        Check.same("totalByRules", plan.totalByRules(0), 0);
        Check.same("the entry", plan.entryState(0), 'x');
        Check.refused("no price", Plans.STATE, plan, () -> plan.price(0));
        Check.refused("no invoice", Plans.STATE, plan, () -> plan.invoiceOf(0));
    }

    private static void invoiceGivesTheDiscount() {
        TicketForge below = worked(10, 10);
        below.setDiscount(1001, 10);
        below.invoice(0, 0);
        Check.same("a sum below it", below.total(0), 1000);
        TicketForge exact = worked(10, 10);
        exact.setDiscount(1000, 10);
        exact.invoice(0, 0);
        Check.same("exactly the sum", exact.total(0), 900);
        TicketForge free = worked(10);
        free.setRate(0, 0);
        free.setDiscount(0, 10);
        free.invoice(0, 0);
        Check.same("a sum of 0", free.total(0), 0);
        TicketForge capped = worked(10, 10);
        capped.setCap(9);
        capped.setDiscount(1000, 10);
        capped.reopen(0);
        Plans.work(capped, 0, 2, 0, 9);
        Plans.end(capped, 0);
        capped.invoice(0, 0);
        Check.same("what is not billable is not in the sum", capped.total(0), 450);
    }

    private static void invoiceRoundsEachPriceDown() {
        TicketForge plan = worked(1, 1, 1);
        plan.setRate(0, 33);
        plan.setRate(1, 33);
        plan.setRate(2, 10);
        plan.setDiscount(76, 15);
        plan.invoice(0, 0);
        Check.same("33 less 15 percent", plan.price(0), 28);
        Check.same("33 less 15 percent, 1", plan.price(1), 28);
        Check.same("10 less 15 percent", plan.price(2), 8);
        Check.same("the sum of the rounded ones", plan.total(0), 64);
        Check.same("by the rules", plan.totalByRules(0), 64);
    }

    private static void invoices() {
        TicketForge plan = Plans.oneInWork();
        Plans.work(plan, 0, 0, 0, 1);
        Plans.work(plan, 0, 0, 1, 1);
        Plans.end(plan, 0);
        Check.same("invoices()", plan.invoices(), 0);
        plan.invoice(0, 0);
        Check.same("invoices()", plan.invoices(), 1);
        plan.invoice(0, 1);
        Check.same("invoices()", plan.invoices(), 2);
        plan.reopen(0);
        Check.same("invoices(), credited", plan.invoices(), 2);
    }

    private static void totalsKeepTheRulesOfTheirInvoice() {
        TicketForge plan = worked(7, 9);
        plan.setRate(0, 33);
        plan.setDiscount(600, 7);
        plan.invoice(0, 0);
        plan.setRate(0, 200);
        plan.setRate(1, 0);
        plan.setDiscount(0, 50);
        plan.setCap(1);
        plan.reopen(0);
        Plans.work(plan, 0, 2, 3, 1);
        Plans.end(plan, 0);
        plan.invoice(0, 29);
        plan.setRate(2, 1);
        plan.setDiscount(99999, 1);
        Check.same("total(0)", plan.total(0), 214 + 418);
        Check.same("totalByRules(0)", plan.totalByRules(0), 214 + 418);
        Check.same("total(1)", plan.total(1), 25);
        Check.same("totalByRules(1)", plan.totalByRules(1), 25);
        Check.same("settled", plan.isSettled(), true);
    }

    private static void totalRefuses() {
        TicketForge plan = worked(7);
        plan.invoice(0, 0);
        for (int never : Plans.NEVER) {
            refusesInvoice(plan, never);
        }
        refusesInvoice(plan, 1);
        refusesInvoice(new TicketForge(), 0);
    }

    private static void refusesInvoice(TicketForge plan, int invoice) {
        Check.refused("total", Plans.NO_SUCH, plan, () -> plan.total(invoice));
        Check.refused("totalByRules", Plans.NO_SUCH, plan, () -> plan.totalByRules(invoice));
        Check.refused("credited", Plans.NO_SUCH, plan, () -> plan.credited(invoice));
        Check.refused("items", Plans.NO_SUCH, plan, () -> plan.items(invoice));
    }

    private static void credited() {
        TicketForge plan = Plans.oneInWork();
        Plans.work(plan, 0, 0, 0, 7);
        Plans.work(plan, 0, 1, 1, 9);
        Plans.end(plan, 0);
        plan.setDiscount(400, 10);
        plan.invoice(0, 0);
        plan.invoice(0, 1);
        Check.same("at first", plan.credited(0), 0);
        Check.same("reopen", plan.reopen(0), 350 + 405);
        Check.same("credited(0)", plan.credited(0), 350);
        Check.same("credited(1)", plan.credited(1), 405);
        Check.same("the total stays", plan.total(1), 405);
        Check.same("the total by rules stays", plan.totalByRules(1), 405);
    }

    private static void creditedByTasks() {
        TicketForge plan = new TicketForge();
        plan.addTask(-1, 5, 0);
        plan.addTask(0, 5, 0);
        plan.addTask(0, 5, 0);
        for (int i = 0; i < 3; i++) {
            plan.begin(i);
            Plans.work(plan, i, 0, i, 1 + i);
        }
        Plans.end(plan, 1);
        Plans.end(plan, 2);
        Plans.end(plan, 0);
        plan.invoice(0, 29);
        Check.same("reopen(0), without its tree", plan.reopen(0), 50);
        Check.same("reopen(2)", plan.reopen(2), 150);
        Check.same("credited", plan.credited(0), 200);
        Check.same("entry 1", plan.entryState(1), 'b');
        Check.same("due", plan.due(), 100L);
    }

    private static void items() {
        TicketForge plan = Plans.oneInWork();
        Plans.work(plan, 0, 0, 0, 30);
        Plans.work(plan, 0, 0, 0, 30);
        Plans.work(plan, 0, 1, 0, 30);
        Plans.work(plan, 0, 1, 1, 30);
        Plans.end(plan, 0);
        plan.invoice(0, 0);
        plan.invoice(0, 1);
        Check.same("items(0)", plan.items(0), 2);
        Check.same("items(1)", plan.items(1), 1);
        plan.reopen(0);
        Check.same("items(0), credited", plan.items(0), 2);
    }

    private static void invoiceOf() {
        TicketForge plan = Plans.oneInWork();
        Plans.work(plan, 0, 0, 0, 30);
        Plans.work(plan, 0, 0, 1, 30);
        Plans.work(plan, 0, 0, 0, 30);
        plan.note(0, 0, 0, 1);
        Check.refused("approved", Plans.STATE, plan, () -> plan.invoiceOf(0));
        Plans.end(plan, 0);
        plan.invoice(0, 0);
        plan.invoice(0, 1);
        Check.same("invoiceOf(0)", plan.invoiceOf(0), 0);
        Check.same("invoiceOf(1)", plan.invoiceOf(1), 1);
        Check.refused("not billable", Plans.STATE, plan, () -> plan.invoiceOf(2));
        Check.refused("noted", Plans.STATE, plan, () -> plan.invoiceOf(3));
        plan.reopen(0);
        Check.same("credited", plan.invoiceOf(1), 1);
        Check.refused("invoiceOf(4)", Plans.NO_SUCH, plan, () -> plan.invoiceOf(4));
        for (int never : Plans.NEVER) {
            Check.refused("invoiceOf(never)", Plans.NO_SUCH, plan, () -> plan.invoiceOf(never));
        }
    }
}
