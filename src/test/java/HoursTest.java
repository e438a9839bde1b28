/** Promises 14 to 21: hours and weeks. */
final class HoursTest {
    private HoursTest() {
    }

    public static void main(String[] args) {
        note();
        noteRefuses();
        noteRefusesInOrder();
        noteNeedsWorkOrReview();
        noteKeepsBudgets();
        noteKeepsBudgetsOfAllStates();
        noteLimit();
        approve();
        approveRefuses();
        lock();
        lockRefuses();
        lockedWeekTakesNoHours();
        entryState();
        price();
        entries();
        hours();
        room();
        Check.finish("HoursTest");
    }

    private static void note() {
        TicketForge plan = Plans.oneInWork();
        Check.same("first entry", plan.note(0, 0, 0, 1), 0);
        Check.same("second entry", plan.note(0, 3, 29, 40), 1);
        Check.same("third entry", plan.note(0, 3, 29, 40), 2);
        Check.same("its state", plan.entryState(1), 'n');
        Check.same("hours", plan.hours(0), 81);
    }

    private static void noteRefuses() {
        TicketForge plan = Plans.oneInWork();
        Check.refused("note(1,..)", Plans.INDEX, plan, () -> plan.note(1, 0, 0, 1));
        for (int never : Plans.NEVER) {
            Check.refused("task never", Plans.INDEX, plan, () -> plan.note(never, 0, 0, 1));
            Check.refused("person never", Plans.ARGUMENT, plan, () -> plan.note(0, never, 0, 1));
            Check.refused("week never", Plans.ARGUMENT, plan, () -> plan.note(0, 0, never, 1));
            Check.refused("hours never", Plans.ARGUMENT, plan, () -> plan.note(0, 0, 0, never));
        }
        Check.refused("person 4", Plans.ARGUMENT, plan, () -> plan.note(0, 4, 0, 1));
        Check.refused("week 30", Plans.ARGUMENT, plan, () -> plan.note(0, 0, 30, 1));
        Check.refused("hours 0", Plans.ARGUMENT, plan, () -> plan.note(0, 0, 0, 0));
        Check.refused("hours 41", Plans.ARGUMENT, plan, () -> plan.note(0, 0, 0, 41));
    }

    private static void noteRefusesInOrder() {
        TicketForge plan = Plans.oneInWork();
        plan.addTask(-1, 5, 0);
        plan.lock(3);
        Check.refused("task ahead of all", Plans.INDEX, plan, () -> plan.note(2, 4, 3, 41));
        Check.refused("range ahead of the week", Plans.ARGUMENT, plan, () -> plan.note(1, 4, 3, 5));
        Check.refused("hours ahead of the week", Plans.ARGUMENT, plan, () -> plan.note(1, 0, 3, 41));
        Check.refused("the week ahead of the state", Plans.UNSUPPORTED, plan, () -> plan.note(1, 0, 3, 5));
        Check.refused("range ahead of the state", Plans.ARGUMENT, plan, () -> plan.note(1, 0, 30, 5));
        Check.refused("the state", Plans.STATE, plan, () -> plan.note(1, 0, 4, 5));
    }

    private static void noteNeedsWorkOrReview() {
        TicketForge plan = Plans.open(1);
        Check.refused("open", Plans.STATE, plan, () -> plan.note(0, 0, 0, 5));
        plan.begin(0);
        Check.same("in work", plan.note(0, 0, 0, 5), 0);
        plan.propose(0);
        Check.same("in review", plan.note(0, 0, 0, 5), 1);
        plan.merge(0);
        Check.refused("done", Plans.STATE, plan, () -> plan.note(0, 0, 0, 5));
        plan.reopen(0);
        Check.same("reopened", plan.note(0, 0, 0, 5), 2);
    }

    private static void noteKeepsBudgets() {
        TicketForge plan = new TicketForge();
        plan.addTask(-1, 5, 50);
        plan.addTask(0, 5, 0);
        plan.addTask(1, 5, 20);
        plan.addTask(0, 5, 0);
        for (int i = 0; i < 4; i++) {
            plan.begin(i);
        }
        Check.refused("over its own budget", Plans.STATE, plan, () -> plan.note(2, 0, 0, 21));
        plan.note(2, 0, 0, 20);
        Check.refused("its own budget is full", Plans.STATE, plan, () -> plan.note(2, 0, 0, 1));
        Check.refused("over the budget of a root", Plans.STATE, plan, () -> plan.note(3, 0, 0, 31));
        plan.note(3, 0, 0, 25);
        Check.refused("over the budget of a root, 1", Plans.STATE, plan, () -> plan.note(1, 0, 0, 6));
        Check.refused("over its own budget, by others", Plans.STATE, plan, () -> plan.note(0, 0, 0, 6));
        Check.same("exactly the budget", plan.note(1, 0, 0, 5), 2);
        Check.refused("all is noted", Plans.STATE, plan, () -> plan.note(3, 0, 0, 1));
        TicketForge below = new TicketForge();
        below.addTask(-1, 5, 0);
        below.addTask(0, 5, 1);
        below.begin(0);
        Check.same("the budget of a child does not bind", below.note(0, 0, 0, 40), 0);
    }

    private static void noteKeepsBudgetsOfAllStates() {
        TicketForge plan = new TicketForge();
        plan.addTask(-1, 5, 10);
        plan.begin(0);
        plan.note(0, 0, 0, 2);
        plan.lock(0);
        Plans.work(plan, 0, 0, 1, 3);
        Plans.end(plan, 0);
        plan.invoice(0, 29);
        plan.reopen(0);
        Check.same("not billable", plan.entryState(0), 'x');
        Check.same("credited", plan.entryState(1), 'c');
        Check.same("room", plan.room(0), 5);
        Check.refused("all entries count", Plans.STATE, plan, () -> plan.note(0, 0, 2, 6));
        Check.same("note what is left", plan.note(0, 0, 2, 5), 2);
    }

    private static void noteLimit() {
        TicketForge plan = Plans.oneInWork();
        for (int i = 0; i < 60; i++) {
            Check.same("entry " + i, plan.note(0, i % 4, i % 30, 1 + i % 40), i);
        }
        Check.refused("a 61st entry", Plans.STATE, plan, () -> plan.note(0, 0, 0, 1));
        Check.refused("a 61st entry out of range", Plans.ARGUMENT, plan, () -> plan.note(0, 0, 0, 0));
        plan.lock(0);
        Check.refused("a 61st entry in a locked week", Plans.UNSUPPORTED, plan, () -> plan.note(0, 0, 0, 1));
        Check.same("the last one", plan.approve(59), 20);
    }

    private static void approve() {
        TicketForge plan = Plans.oneInWork();
        plan.addTask(-1, 5, 0);
        plan.begin(1);
        plan.note(0, 0, 7, 5);
        plan.note(1, 1, 7, 6);
        plan.note(0, 0, 8, 9);
        plan.note(0, 2, 7, 7);
        Check.same("approve(1)", plan.approve(1), 6);
        Check.same("approve(0)", plan.approve(0), 11);
        Check.same("approve(2), another week", plan.approve(2), 9);
        Check.same("its state", plan.entryState(2), 'a');
        Check.same("not approved", plan.entryState(3), 'n');
        Plans.end(plan, 0);
        Plans.end(plan, 1);
        plan.invoice(1, 7);
        Check.same("billed hours are not approved any more", plan.approve(3), 12);
    }

    private static void approveRefuses() {
        TicketForge plan = Plans.oneInWork();
        plan.note(0, 0, 0, 5);
        plan.note(0, 0, 1, 5);
        plan.approve(0);
        plan.lock(1);
        Check.refused("approved already", Plans.STATE, plan, () -> plan.approve(0));
        Check.refused("not billable", Plans.STATE, plan, () -> plan.approve(1));
        Plans.end(plan, 0);
        plan.invoice(0, 0);
        Check.refused("billed", Plans.STATE, plan, () -> plan.approve(0));
        plan.reopen(0);
        Check.refused("credited", Plans.STATE, plan, () -> plan.approve(0));
        Check.refused("approve(2)", Plans.NO_SUCH, plan, () -> plan.approve(2));
        for (int never : Plans.NEVER) {
            Check.refused("approve(never)", Plans.NO_SUCH, plan, () -> plan.approve(never));
        }
    }

    private static void lock() {
        TicketForge plan = Plans.oneInWork();
        plan.note(0, 0, 5, 5);
        plan.note(0, 1, 5, 5);
        plan.note(0, 0, 6, 5);
        plan.note(0, 2, 5, 5);
        plan.approve(1);
        Check.same("lock(5)", plan.lock(5), 2);
        Check.same("noted in the week", plan.entryState(0), 'x');
        Check.same("approved in the week", plan.entryState(1), 'a');
        Check.same("noted in another week", plan.entryState(2), 'n');
        Check.same("noted in the week, 3", plan.entryState(3), 'x');
        Check.same("lock(4), without entries", plan.lock(4), 0);
        Check.same("lock(0)", plan.lock(0), 0);
        Check.same("lock(29)", plan.lock(29), 0);
        Plans.end(plan, 0);
        plan.invoice(0, 29);
        Check.same("a locked week is billed", plan.entryState(1), 'b');
    }

    private static void lockRefuses() {
        TicketForge plan = Plans.oneInWork();
        plan.note(0, 0, 5, 5);
        plan.lock(5);
        Check.refused("lock(5) again", Plans.STATE, plan, () -> plan.lock(5));
        Check.refused("lock(30)", Plans.ARGUMENT, plan, () -> plan.lock(30));
        Check.refused("lock(37), 5 and 32", Plans.ARGUMENT, plan, () -> plan.lock(37));
        for (int never : Plans.NEVER) {
            Check.refused("lock(never)", Plans.ARGUMENT, plan, () -> plan.lock(never));
        }
        for (int week = 0; week < 30; week++) {
            if (week != 5) {
                Check.same("lock(" + week + ")", plan.lock(week), 0);
            }
        }
        for (int each = 0; each < 30; each++) {
            int week = each;
            Check.refused("a week stays locked", Plans.STATE, plan, () -> plan.lock(week));
            Check.refused("a week takes no hours", Plans.UNSUPPORTED, plan, () -> plan.note(0, 0, week, 1));
        }
    }

    private static void lockedWeekTakesNoHours() {
        TicketForge plan = Plans.oneInWork();
        plan.lock(5);
        Check.refused("a locked week", Plans.UNSUPPORTED, plan, () -> plan.note(0, 0, 5, 1));
        Check.same("the week ahead of it", plan.note(0, 0, 4, 1), 0);
        Check.same("the week behind it", plan.note(0, 0, 6, 1), 1);
        Check.same("approve in another week", plan.approve(0), 1);
    }

    private static void entryState() {
        TicketForge plan = Plans.oneInWork();
        plan.note(0, 0, 0, 5);
        Check.same("noted", plan.entryState(0), 'n');
        plan.approve(0);
        Check.same("approved", plan.entryState(0), 'a');
        Plans.end(plan, 0);
        plan.invoice(0, 0);
        Check.same("billed", plan.entryState(0), 'b');
        plan.reopen(0);
        Check.same("credited", plan.entryState(0), 'c');
        plan.note(0, 0, 0, 5);
        plan.lock(0);
        Check.same("not billable", plan.entryState(1), 'x');
        Check.same("credited still", plan.entryState(0), 'c');
        Check.refused("entryState(2)", Plans.NO_SUCH, plan, () -> plan.entryState(2));
        for (int never : Plans.NEVER) {
            Check.refused("entryState(never)", Plans.NO_SUCH, plan, () -> plan.entryState(never));
        }
    }

    private static void price() {
        TicketForge plan = Plans.oneInWork();
        plan.setRate(2, 33);
        plan.note(0, 2, 0, 7);
        Check.refused("noted", Plans.STATE, plan, () -> plan.price(0));
        plan.approve(0);
        Check.refused("approved", Plans.STATE, plan, () -> plan.price(0));
        plan.note(0, 2, 1, 7);
        plan.lock(1);
        Check.refused("not billable", Plans.STATE, plan, () -> plan.price(1));
        Plans.end(plan, 0);
        plan.setDiscount(0, 10);
        plan.invoice(0, 29);
        Check.same("billed: 231 less 10 percent", plan.price(0), 207);
        plan.setRate(2, 50);
        plan.setDiscount(0, 0);
        Check.same("rules that come later", plan.price(0), 207);
        plan.reopen(0);
        Check.same("credited", plan.price(0), 207);
        Check.refused("price(2)", Plans.NO_SUCH, plan, () -> plan.price(2));
        for (int never : Plans.NEVER) {
            Check.refused("price(never)", Plans.NO_SUCH, plan, () -> plan.price(never));
        }
    }

    private static void entries() {
        TicketForge plan = Plans.oneInWork();
        for (int i = 0; i < 60; i++) {
            Check.same("entries()", plan.entries(), i);
            plan.note(0, 0, 0, 1);
        }
        Check.same("entries()", plan.entries(), 60);
    }

    private static void hours() {
        TicketForge plan = new TicketForge();
        plan.addTask(-1, 5, 0);
        plan.addTask(0, 5, 0);
        plan.addTask(1, 5, 0);
        plan.addTask(-1, 5, 0);
        for (int i = 0; i < 4; i++) {
            plan.begin(i);
            Check.same("hours at first", plan.hours(i), 0);
        }
        plan.note(0, 0, 0, 1);
        plan.note(1, 0, 0, 2);
        plan.note(2, 0, 1, 4);
        plan.note(3, 0, 0, 8);
        plan.note(2, 1, 0, 16);
        plan.approve(1);
        plan.lock(1);
        int[] due = {23, 22, 20, 8};
        for (int i = 0; i < due.length; i++) {
            Check.same("hours(" + i + ")", plan.hours(i), due[i]);
        }
        Check.refused("hours(4)", Plans.INDEX, plan, () -> plan.hours(4));
        for (int never : Plans.NEVER) {
            Check.refused("hours(never)", Plans.INDEX, plan, () -> plan.hours(never));
        }
    }

    private static void room() {
        TicketForge plan = new TicketForge();
        plan.addTask(-1, 5, 100);
        plan.addTask(0, 5, 30);
        plan.addTask(1, 5, 0);
        plan.addTask(0, 5, 200);
        plan.addTask(-1, 5, 0);
        plan.addTask(4, 5, 7);
        Check.same("open, its own", plan.room(0), 100);
        Check.same("the lesser one, its own", plan.room(1), 30);
        Check.same("the lesser one, of its parent", plan.room(2), 30);
        Check.same("the lesser one, of the root", plan.room(3), 100);
        Check.refused("none applies", Plans.NO_SUCH, plan, () -> plan.room(4));
        Check.same("a child with a budget", plan.room(5), 7);
        plan.begin(2);
        plan.begin(3);
        plan.note(2, 0, 0, 12);
        Check.same("after 12 hours, 0", plan.room(0), 88);
        Check.same("after 12 hours, 1", plan.room(1), 18);
        Check.same("after 12 hours, 2", plan.room(2), 18);
        Check.same("after 12 hours, 3", plan.room(3), 88);
        plan.note(3, 0, 0, 40);
        plan.note(3, 0, 0, 40);
        Check.same("the root is the lesser one now", plan.room(2), 8);
        plan.note(3, 0, 0, 8);
        Check.same("nothing is left", plan.room(1), 0);
        Check.refused("room(6)", Plans.INDEX, plan, () -> plan.room(6));
        for (int never : Plans.NEVER) {
            Check.refused("room(never)", Plans.INDEX, plan, () -> plan.room(never));
        }
    }
}
