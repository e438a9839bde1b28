import java.util.function.Consumer;
import java.util.function.ObjIntConsumer;
import java.util.function.Supplier;

/** What the tests of edges ask again and again. */
final class Edge {
    private static final int MANY_TASKS = 16;

    private Edge() {
    }

    /**
     * The call throws exactly this exception, and changes nothing that a later call shows. A plan for each kind of
     * later calls, since they change it themselves; beside it one that was made alike, without the refused call.
     */
    static void refused(String what, Class<? extends RuntimeException> due, Supplier<TicketForge> plans,
            Consumer<TicketForge> call) {
        for (Probe probe : Probe.values()) {
            TicketForge tried = plans.get();
            Check.same(what, Check.thrownBy(() -> call.accept(tried)), due.getName());
            Check.same(probe + " after " + what, probe.of(tried), probe.of(plans.get()));
        }
    }

    /** The call is refused for the whole numbers next to this range and for some that are far from it. */
    static void outside(String what, Class<? extends RuntimeException> due, int least, int greatest,
            Supplier<TicketForge> plans, ObjIntConsumer<TicketForge> call) {
        // What is cut to fewer bits, or shifted by, may come back into the range.
        int[] steps = {1, 2, 64, 256, 65536, 1 << 30};
        for (int step : steps) {
            int below = least - step;
            int above = greatest + step;
            refused(what + " " + below, due, plans, plan -> call.accept(plan, below));
            refused(what + " " + above, due, plans, plan -> call.accept(plan, above));
        }
        refused(what + ", the least int", due, plans, plan -> call.accept(plan, Integer.MIN_VALUE));
        refused(what + ", the greatest int", due, plans, plan -> call.accept(plan, Integer.MAX_VALUE));
    }

    /** The call is refused for numbers of tasks that do not exist: in an empty plan, in one of 3, in a full one. */
    static void noSuchTask(ObjIntConsumer<TicketForge> call) {
        refused("task 0 of none", Plans.INDEX, TicketForge::new, plan -> call.accept(plan, 0));
        refused("task -1 of none", Plans.INDEX, TicketForge::new, plan -> call.accept(plan, -1));
        outside("one of 3 tasks", Plans.INDEX, 0, 2, () -> Plans.open(3), call);
        refused("task 16 of 16", Plans.INDEX, Plans::full, plan -> call.accept(plan, MANY_TASKS));
        refused("task -1 of 16", Plans.INDEX, Plans::full, plan -> call.accept(plan, -1));
    }

    /** The call is refused for numbers of entries that do not exist: in an empty plan, in one of 1, in a full one. */
    static void noSuchEntry(ObjIntConsumer<TicketForge> call) {
        refused("entry 0 of none", Plans.NO_SUCH, TicketForge::new, plan -> call.accept(plan, 0));
        refused("entry 0 of none, with a task", Plans.NO_SUCH, Plans::oneInWork, plan -> call.accept(plan, 0));
        outside("one of 1 entry", Plans.NO_SUCH, 0, 0, () -> Plans.entryIn('n'), call);
        outside("one of 1 entry, billed", Plans.NO_SUCH, 0, 0, () -> Plans.entryIn('b'), call);
        outside("one of 60 entries", Plans.NO_SUCH, 0, 59, Plans::full, call);
    }

    /** The call is refused for numbers of invoices that do not exist: in an empty plan, in one of 1, in a full one. */
    static void noSuchInvoice(ObjIntConsumer<TicketForge> call) {
        refused("invoice 0 of none", Plans.NO_SUCH, TicketForge::new, plan -> call.accept(plan, 0));
        refused("invoice 0 of none, approved", Plans.NO_SUCH, () -> Plans.entryIn('a'), plan -> call.accept(plan, 0));
        outside("one of 1 invoice", Plans.NO_SUCH, 0, 0, () -> Plans.entryIn('b'), call);
        outside("one of 20 invoices", Plans.NO_SUCH, 0, 19, Plans::full, call);
    }

    /** The call is refused for numbers of weeks that do not exist. */
    static void noSuchWeek(Supplier<TicketForge> plans, ObjIntConsumer<TicketForge> call) {
        outside("week", Plans.ARGUMENT, 0, 29, plans, call);
        refused("week 32, a bit of an int further", Plans.ARGUMENT, plans, plan -> call.accept(plan, 32));
    }
}
