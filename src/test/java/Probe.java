import java.util.function.Supplier;

/**
 * The kinds of calls that show how a plan stands. Most of them change it, so that each kind takes a plan of its own;
 * each makes some 250 calls at most, so that the plan's making may take as many, within the 512 of an object.
 */
enum Probe {
    TASKS {
        @Override
        void ask(TicketForge plan, StringBuilder text) {
            add(text, "tasks", plan::tasks);
            for (int i = 0; i < plan.tasks(); i++) {
                int task = i;
                add(text, "state", () -> plan.state(task));
                add(text, "parent", () -> plan.parent(task));
                add(text, "treeSize", () -> plan.treeSize(task));
                add(text, "canBegin", () -> plan.canBegin(task));
                add(text, "hours", () -> plan.hours(task));
                add(text, "room", () -> plan.room(task));
                add(text, "left", () -> plan.left(task));
            }
        }
    },
    ENTRIES {
        @Override
        void ask(TicketForge plan, StringBuilder text) {
            add(text, "entries", plan::entries);
            for (int i = 0; i < plan.entries(); i++) {
                int entry = i;
                add(text, "entryState", () -> plan.entryState(entry));
                add(text, "price", () -> plan.price(entry));
                add(text, "invoiceOf", () -> plan.invoiceOf(entry));
            }
        }
    },
    FIGURES {
        @Override
        void ask(TicketForge plan, StringBuilder text) {
            add(text, "invoices", plan::invoices);
            for (int i = 0; i < plan.invoices(); i++) {
                int invoice = i;
                add(text, "total", () -> plan.total(invoice));
                add(text, "totalByRules", () -> plan.totalByRules(invoice));
                add(text, "credited", () -> plan.credited(invoice));
                add(text, "items", () -> plan.items(invoice));
            }
            for (int i = 0; i < WEEKS; i++) {
                int week = i;
                add(text, "pace", () -> plan.pace(week));
                add(text, "forecast", () -> plan.forecast(0, week));
            }
            add(text, "due", plan::due);
            add(text, "meanPrice", plan::meanPrice);
            add(text, "isSettled", plan::isSettled);
        }
    },
    RULES {
        @Override
        void ask(TicketForge plan, StringBuilder text) {
            for (int i = 0; i < PERSONS; i++) {
                int person = i;
                add(text, "setRate", () -> plan.setRate(person, 7));
            }
            add(text, "setCap", () -> plan.setCap(7));
            add(text, "setDiscount", () -> plan.setDiscount(7, 7));
        }
    },
    BRANCHES {
        @Override
        void ask(TicketForge plan, StringBuilder text) {
            for (int i = plan.tasks() - 1; i >= 0; i--) {
                int task = i;
                add(text, "begin", () -> plan.begin(task));
                add(text, "propose", () -> plan.propose(task));
                add(text, "reject", () -> plan.reject(task));
                add(text, "propose", () -> plan.propose(task));
                add(text, "merge", () -> plan.merge(task));
            }
            for (int i = 0; i < plan.tasks(); i++) {
                int task = i;
                add(text, "reopen", () -> plan.reopen(task));
            }
        }
    },
    BLOCKS {
        @Override
        void ask(TicketForge plan, StringBuilder text) {
            for (int i = 0; i < plan.tasks(); i++) {
                for (int j = 0; j < plan.tasks(); j++) {
                    int task = i;
                    int other = j;
                    add(text, "block", () -> plan.block(task, other));
                }
            }
        }
    },
    NEW_TASKS {
        @Override
        void ask(TicketForge plan, StringBuilder text) {
            for (int i = -1; i <= TASKS_AT_MOST; i++) {
                int parent = i;
                add(text, "addTask", () -> plan.addTask(parent, 5, 0));
            }
            TASKS.ask(plan, text);
        }
    },
    NOTES {
        @Override
        void ask(TicketForge plan, StringBuilder text) {
            for (int i = 0; i < plan.tasks(); i++) {
                int task = i;
                add(text, "note", () -> plan.note(task, 3, 29, 1));
                add(text, "note", () -> plan.note(task, 0, 0, 40));
            }
            for (int i = 0; i < WEEKS; i++) {
                int week = i;
                add(text, "note", () -> plan.note(0, 1, week, 2));
            }
            add(text, "entries", plan::entries);
        }
    },
    LOCKS {
        @Override
        void ask(TicketForge plan, StringBuilder text) {
            for (int i = 0; i < WEEKS; i++) {
                int week = i;
                add(text, "lock", () -> plan.lock(week));
            }
            for (int i = 0; i < plan.entries(); i++) {
                int entry = i;
                add(text, "approve", () -> plan.approve(entry));
            }
        }
    },
    BILLING {
        @Override
        void ask(TicketForge plan, StringBuilder text) {
            for (int i = 0; i < plan.entries(); i++) {
                int entry = i;
                add(text, "approve", () -> plan.approve(entry));
            }
            for (int i = plan.tasks() - 1; i >= 0; i--) {
                int task = i;
                add(text, "propose", () -> plan.propose(task));
                add(text, "merge", () -> plan.merge(task));
            }
            for (int i = 0; i < plan.tasks(); i++) {
                int task = i;
                add(text, "invoice", () -> plan.invoice(task, WEEKS - 1));
            }
            for (int i = 0; i < plan.entries(); i++) {
                int entry = i;
                add(text, "price", () -> plan.price(entry));
            }
            add(text, "due", plan::due);
        }
    };

    private static final int WEEKS = 30;
    private static final int PERSONS = 4;
    private static final int TASKS_AT_MOST = 16;

    abstract void ask(TicketForge plan, StringBuilder text);

    /** All that the calls of this kind answer, as one text. */
    String of(TicketForge plan) {
        StringBuilder text = new StringBuilder();
        ask(plan, text);
        return text.toString();
    }

    private static void add(StringBuilder text, String call, Supplier<Object> ask) {
        text.append(call).append('=').append(answer(ask)).append(' ');
    }

    private static String answer(Supplier<Object> call) {
        try {
            return String.valueOf(call.get());
        } catch (RuntimeException e) {
            return e.getClass().getSimpleName() + (Check.isOwn(e) ? "" : " of the machine");
        }
    }
}
