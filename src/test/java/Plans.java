/** Steps that many tests take. */
final class Plans {
    static final Class<IndexOutOfBoundsException> INDEX = IndexOutOfBoundsException.class;
    static final Class<IllegalArgumentException> ARGUMENT = IllegalArgumentException.class;
    static final Class<IllegalStateException> STATE = IllegalStateException.class;
    static final Class<UnsupportedOperationException> UNSUPPORTED = UnsupportedOperationException.class;
    static final Class<java.util.NoSuchElementException> NO_SUCH = java.util.NoSuchElementException.class;
    static final Class<ArithmeticException> ARITHMETIC = ArithmeticException.class;

    /** Numbers that are never a task, an entry, an invoice, a person or a week. */
    static final int[] NEVER = {-1, -2, 60, 1000, Integer.MIN_VALUE, Integer.MAX_VALUE};

    private Plans() {
    }

    /** A plan with one task, without a budget, in work. */
    static TicketForge oneInWork() {
        TicketForge plan = new TicketForge();
        plan.addTask(-1, 100, 0);
        plan.begin(0);
        return plan;
    }

    static TicketForge open(int tasks) {
        TicketForge plan = new TicketForge();
        for (int i = 0; i < tasks; i++) {
            plan.addTask(-1, 10, 0);
        }
        return plan;
    }

    /** Takes a task that is in work to done. */
    static void end(TicketForge plan, int task) {
        plan.propose(task);
        plan.merge(task);
    }

    static void beginAndEnd(TicketForge plan, int task) {
        plan.begin(task);
        end(plan, task);
    }

    /** Notes hours and approves them. */
    static int work(TicketForge plan, int task, int person, int week, int hours) {
        int entry = plan.note(task, person, week, hours);
        plan.approve(entry);
        return entry;
    }
}
