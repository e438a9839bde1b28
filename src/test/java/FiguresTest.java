/** Promises 32 to 37: forecasts and figures. */
final class FiguresTest {
    private FiguresTest() {
    }

    public static void main(String[] args) {
        left();
        pace();
        forecast();
        forecastRefuses();
        due();
        meanPrice();
        meanPriceRefuses();
        isSettled();
        Check.finish("FiguresTest");
    }

    private static void left() {
        TicketForge plan = new TicketForge();
        plan.addTask(-1, 50, 0);
        plan.addTask(0, 20, 0);
        plan.begin(0);
        plan.begin(1);
        Check.same("at first", plan.left(0), 50);
        plan.note(1, 0, 0, 15);
        Check.same("hours of children do not count", plan.left(0), 50);
        Check.same("left(1)", plan.left(1), 5);
        plan.note(1, 0, 1, 5);
        Check.same("exactly the estimate", plan.left(1), 0);
        plan.note(1, 0, 2, 40);
        Check.same("not less than 0", plan.left(1), 0);
        plan.note(0, 3, 3, 8);
        plan.lock(3);
        Check.same("hours that are not billable count", plan.left(0), 42);
        Check.refused("left(2)", Plans.INDEX, plan, () -> plan.left(2));
        for (int never : Plans.NEVER) {
            Check.refused("left(never)", Plans.INDEX, plan, () -> plan.left(never));
        }
    }

    private static void pace() {
        TicketForge plan = Plans.oneInWork();
        plan.addTask(-1, 5, 0);
        plan.begin(1);
        Check.same("without hours", plan.pace(7), 0.0f);
        plan.note(0, 0, 0, 1);
        plan.note(1, 1, 1, 2);
        plan.note(0, 2, 2, 4);
        plan.note(0, 3, 3, 8);
        plan.note(0, 0, 29, 20);
        plan.lock(2);
        int[] hours = {1, 3, 7, 14, 12, 8, 0};
        for (int week = 0; week < hours.length; week++) {
            Check.same("pace(" + week + ")", plan.pace(week), (float) hours[week] / 3.0f);
        }
        Check.same("pace(28)", plan.pace(28), 0.0f);
        Check.same("pace(29)", plan.pace(29), 20.0f / 3.0f);
        Check.refused("pace(30)", Plans.ARGUMENT, plan, () -> plan.pace(30));
        for (int never : Plans.NEVER) {
            Check.refused("pace(never)", Plans.ARGUMENT, plan, () -> plan.pace(never));
        }
    }

    private static void forecast() {
        TicketForge plan = new TicketForge();
        int[] estimates = {1, 6, 7, 8, 400, 3};
        for (int estimate : estimates) {
            plan.addTask(-1, estimate, 0);
        }
        plan.addTask(-1, 400, 0);
        plan.begin(6);
        plan.begin(5);
        plan.note(6, 0, 4, 4);
        plan.note(5, 0, 5, 3);
        int[] due = {1, 3, 3, 4, 172, 0, 170};
        for (int task = 0; task < due.length; task++) {
            Check.same("forecast(" + task + ", 5)", plan.forecast(task, 5), due[task]);
        }
        Check.same("by the week ahead", plan.forecast(1, 4), 5);
        Check.same("by the last week with a pace", plan.forecast(1, 7), 6);
        Check.same("by one hour in three weeks", oneHour().forecast(0, 0), 1197);
        Check.same("by much", manyHours().forecast(1, 0), 1);
    }

    private static TicketForge oneHour() {
        TicketForge plan = new TicketForge();
        plan.addTask(-1, 400, 0);
        plan.begin(0);
        plan.note(0, 0, 0, 1);
        return plan;
    }

    private static TicketForge manyHours() {
        TicketForge plan = Plans.oneInWork();
        plan.addTask(-1, 400, 0);
        for (int i = 0; i < 30; i++) {
            plan.note(0, 0, 0, 40);
        }
        return plan;
    }

    private static void forecastRefuses() {
        TicketForge plan = oneHour();
        Check.refused("no pace", Plans.ARITHMETIC, plan, () -> plan.forecast(0, 3));
        Check.refused("forecast(1, 0)", Plans.INDEX, plan, () -> plan.forecast(1, 0));
        Check.refused("forecast(0, 30)", Plans.ARGUMENT, plan, () -> plan.forecast(0, 30));
        for (int never : Plans.NEVER) {
            Check.refused("task never", Plans.INDEX, plan, () -> plan.forecast(never, 3));
            Check.refused("task ahead of the week", Plans.INDEX, plan, () -> plan.forecast(never, never));
            Check.refused("week never", Plans.ARGUMENT, plan, () -> plan.forecast(0, never));
        }
        TicketForge full = new TicketForge();
        full.addTask(-1, 1, 0);
        full.begin(0);
        full.note(0, 0, 0, 1);
        Check.same("nothing is left", full.forecast(0, 2), 0);
        Check.refused("nothing is left, no pace", Plans.ARITHMETIC, full, () -> full.forecast(0, 3));
    }

    private static void due() {
        TicketForge plan = new TicketForge();
        Check.same("without invoices", plan.due(), 0L);
        plan.addTask(-1, 5, 0);
        plan.addTask(-1, 5, 0);
        plan.begin(0);
        plan.begin(1);
        Plans.work(plan, 0, 0, 0, 7);
        Plans.work(plan, 1, 1, 0, 9);
        Check.same("approved hours", plan.due(), 0L);
        Plans.end(plan, 0);
        Plans.end(plan, 1);
        plan.invoice(0, 0);
        plan.setDiscount(0, 10);
        plan.invoice(1, 0);
        Check.same("two invoices", plan.due(), 350L + 405L);
        plan.reopen(0);
        Check.same("one is credited", plan.due(), 405L);
        plan.reopen(1);
        Check.same("all is credited", plan.due(), 0L);
    }

    private static void meanPrice() {
        TicketForge plan = new TicketForge();
        plan.addTask(-1, 5, 0);
        plan.addTask(-1, 5, 0);
        plan.begin(0);
        plan.begin(1);
        plan.setRate(1, 10);
        Plans.work(plan, 0, 0, 0, 7);
        Plans.work(plan, 0, 1, 0, 3);
        Plans.work(plan, 1, 1, 0, 9);
        plan.note(0, 2, 0, 40);
        Plans.end(plan, 0);
        Plans.end(plan, 1);
        plan.invoice(0, 0);
        Check.same("of what is billed", plan.meanPrice(), 380.0 / 10.0);
        plan.setDiscount(0, 50);
        plan.invoice(1, 0);
        Check.same("of all that is billed", plan.meanPrice(), 425.0 / 19.0);
        plan.reopen(0);
        Check.same("without what is credited", plan.meanPrice(), 45.0 / 9.0);
    }

    private static void meanPriceRefuses() {
        TicketForge plan = Plans.oneInWork();
        Check.refused("without entries", Plans.ARITHMETIC, plan, plan::meanPrice);
        Plans.work(plan, 0, 0, 0, 5);
        Check.refused("approved", Plans.ARITHMETIC, plan, plan::meanPrice);
        Plans.end(plan, 0);
        plan.setRate(0, 0);
        plan.invoice(0, 0);
        Check.same("billed for nothing", plan.meanPrice(), 0.0);
        plan.reopen(0);
        Check.refused("credited", Plans.ARITHMETIC, plan, plan::meanPrice);
    }

    private static void isSettled() {
        TicketForge plan = Plans.oneInWork();
        Check.same("at first", plan.isSettled(), true);
        Plans.work(plan, 0, 0, 0, 40);
        plan.setCap(60);
        Plans.work(plan, 0, 0, 0, 20);
        Plans.end(plan, 0);
        plan.setDiscount(0, 15);
        plan.invoice(0, 0);
        Check.same("60 hours at a cap of 60", plan.items(0), 2);
        plan.setCap(0);
        plan.setRate(0, 7);
        plan.setDiscount(0, 50);
        Check.same("the greatest cap counts", plan.isSettled(), true);
        plan.reopen(0);
        Check.same("credited", plan.isSettled(), true);
        TicketForge first = Plans.oneInWork();
        Plans.work(first, 0, 0, 0, 40);
        Plans.end(first, 0);
        first.invoice(0, 0);
        first.setCap(0);
        Check.same("the first cap counts too", first.isSettled(), true);
    }
}
