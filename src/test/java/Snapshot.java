import java.util.function.Supplier;

/** All that a plan answers without being changed by it, as one text. */
final class Snapshot {
    private Snapshot() {
    }

    static String of(TicketForge plan) {
        StringBuilder text = new StringBuilder();
        addTasks(text, plan);
        addEntries(text, plan);
        addInvoices(text, plan);
        for (int week = 0; week < 30; week++) {
            text.append(" pace").append(week).append('=').append(plan.pace(week));
        }
        text.append(" due=").append(plan.due());
        text.append(" mean=").append(answer(plan::meanPrice));
        text.append(" settled=").append(plan.isSettled());
        return text.toString();
    }

    private static void addTasks(StringBuilder text, TicketForge plan) {
        text.append("tasks=").append(plan.tasks());
        for (int i = 0; i < plan.tasks(); i++) {
            int task = i;
            text.append("\n task").append(task).append('=').append(plan.state(task));
            text.append(',').append(answer(() -> plan.parent(task)));
            text.append(',').append(plan.treeSize(task));
            text.append(',').append(plan.canBegin(task));
            text.append(',').append(plan.hours(task));
            text.append(',').append(answer(() -> plan.room(task)));
            text.append(',').append(plan.left(task));
            text.append(',').append(answer(() -> plan.forecast(task, 2)));
        }
    }

    private static void addEntries(StringBuilder text, TicketForge plan) {
        text.append("\n entries=").append(plan.entries());
        for (int i = 0; i < plan.entries(); i++) {
            int entry = i;
            text.append("\n entry").append(entry).append('=').append(plan.entryState(entry));
            text.append(',').append(answer(() -> plan.price(entry)));
            text.append(',').append(answer(() -> plan.invoiceOf(entry)));
        }
    }

    private static void addInvoices(StringBuilder text, TicketForge plan) {
        text.append("\n invoices=").append(plan.invoices());
        for (int i = 0; i < plan.invoices(); i++) {
            text.append("\n invoice").append(i).append('=').append(plan.total(i));
            text.append(',').append(plan.totalByRules(i));
            text.append(',').append(plan.credited(i));
            text.append(',').append(plan.items(i));
        }
    }

    private static String answer(Supplier<Object> call) {
        try {
            return String.valueOf(call.get());
        } catch (RuntimeException e) {
            return e.getClass().getSimpleName();
        }
    }
}
