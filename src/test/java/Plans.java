/** Steps that many tests take. */
final class Plans {
    static final Class<IndexOutOfBoundsException> INDEX = IndexOutOfBoundsException.class;
    static final Class<IllegalArgumentException> ARGUMENT = IllegalArgumentException.class;
    static final Class<IllegalStateException> STATE = IllegalStateException.class;
    static final Class<UnsupportedOperationException> UNSUPPORTED = UnsupportedOperationException.class;
    static final Class<java.util.NoSuchElementException> NO_SUCH = java.util.NoSuchElementException.class;
    static final Class<ArithmeticException> ARITHMETIC = ArithmeticException.class;

    /** Numbers that are never a task, an entry, an invoice, a person or a week. */
    static final int[] NEVER = {-1, -2, 60, 1000, Integer.MIN_VALUE, Integer.MAX_VALUE};

    private Plans() {
    }

    /** A plan with one task, without a budget, in work. */
    static TicketForge oneInWork() {
        TicketForge plan = new TicketForge();
        plan.addTask(-1, 100, 0);
        plan.begin(0);
        return plan;
    }

    static TicketForge open(int tasks) {
        TicketForge plan = new TicketForge();
        for (int i = 0; i < tasks; i++) {
            plan.addTask(-1, 10, 0);
        }
        return plan;
    }

    /** Takes a task that is in work to done. */
    static void end(TicketForge plan, int task) {
        plan.propose(task);
        plan.merge(task);
    }

    static void beginAndEnd(TicketForge plan, int task) {
        plan.begin(task);
        end(plan, task);
    }

    /** Notes hours and approves them. */
    static int work(TicketForge plan, int task, int person, int week, int hours) {
        int entry = plan.note(task, person, week, hours);
        plan.approve(entry);
        return entry;
    }

    /** A plan with one task, without a budget, in this state. */
    static TicketForge taskIn(char state) {
        TicketForge plan = open(1);
        bring(plan, 0, state);
        return plan;
    }

    /** Brings an open task to this state. */
    static void bring(TicketForge plan, int task, char state) {
        if (state != 'o') {
            plan.begin(task);
        }
        if (state == 'r' || state == 'd') {
            plan.propose(task);
        }
        if (state == 'd') {
            plan.merge(task);
        }
    }

    /** A plan with one task and one entry, of 5 hours of person 0 in week 0, in this state. */
    static TicketForge entryIn(char state) {
        TicketForge plan = oneInWork();
        plan.note(0, 0, 0, 5);
        if (state == 'x') {
            plan.lock(0);
        } else if (state != 'n') {
            plan.approve(0);
        }
        if (state == 'b' || state == 'c') {
            end(plan, 0);
            plan.invoice(0, 0);
        }
        if (state == 'c') {
            plan.reopen(0);
        }
        return plan;
    }

    /** Tasks that are parents one of the next, open, without budgets. */
    static TicketForge chain(int tasks) {
        TicketForge plan = new TicketForge();
        for (int i = 0; i < tasks; i++) {
            plan.addTask(i - 1, 10, 0);
        }
        return plan;
    }

    /**
     * As many tasks, blocks, entries and invoices as there may be. Tasks 0 to 7 are a chain, all done but task 0, which
     * is reopened; the others are open, and 14 and 15 are blocked by ten each. Two entries a week, those of the weeks
     * 0 to 19 billed by an invoice a week and some of them credited, those of 20 to 27 approved, the last ones noted.
     */
    static TicketForge full() {
        TicketForge plan = new TicketForge();
        for (int i = 0; i < 16; i++) {
            plan.addTask(i < 8 ? i - 1 : -1, 100, i == 0 ? 400 : 0);
        }
        for (int i = 0; i < 10; i++) {
            plan.block(i, 14);
            plan.block(i, 15);
        }
        for (int i = 0; i < 8; i++) {
            plan.begin(i);
        }
        for (int i = 0; i < 60; i++) {
            int entry = plan.note(i % 8, i % 4, i / 2, 1 + i % 5);
            if (i < 56) {
                plan.approve(entry);
            }
        }
        for (int i = 7; i >= 0; i--) {
            end(plan, i);
        }
        for (int week = 0; week < 20; week++) {
            plan.invoice(0, week);
        }
        plan.reopen(0);
        return plan;
    }
}
