import java.util.ArrayList;
import java.util.List;
import java.util.Random;
import java.util.Set;

/**
 * Long runs of calls by fixed seeds. A second plan gets only the calls that the first one did not refuse, and must
 * answer them alike: a call that throws has changed nothing, not even what no call answers.
 */
final class RandomRunsTest {
    private static final int RUNS = 600;
    private static final int CALLS = 512;
    private static final int ORDINARY = 1 << 20;
    private static final int FIRST_NOTE = 11;
    private static final int LAST_NOTE = 13;
    private static final Set<String> DOCUMENTED = Set.of(
        "java.lang.IndexOutOfBoundsException", "java.lang.IllegalArgumentException",
        "java.lang.IllegalStateException", "java.lang.UnsupportedOperationException",
        "java.util.NoSuchElementException");

    private final Random random;
    private final TicketForge first = new TicketForge();
    private final TicketForge second = new TicketForge();
    private final List<int[]> notes = new ArrayList<>();

    private RandomRunsTest(long seed) {
        random = new Random(seed);
    }

    public static void main(String[] args) {
        for (int seed = 1; seed <= RUNS; seed++) {
            new RandomRunsTest(seed).run("run " + seed);
        }
        Check.finish("RandomRunsTest");
    }

    private void run(String name) {
        boolean wild = random.nextInt(4) == 0;
        for (int i = 0; i < CALLS; i++) {
            int kind = random.nextInt(19);
            int[] numbers = {number(wild), number(wild), number(wild), number(wild)};
            step(name + ", call " + i, kind, numbers);
            if (i % 32 == 0) {
                checkWhatStands(name + ", after call " + i);
            }
        }
        checkWhatStands(name);
        Check.same(name + ": both plans", Snapshot.of(second), Snapshot.of(first));
    }

    private int number(boolean wild) {
        int[] extremes = {Integer.MIN_VALUE, Integer.MAX_VALUE, -1, -2, 1 << 30};
        return wild && random.nextInt(8) == 0 ? extremes[random.nextInt(extremes.length)] : random.nextInt(ORDINARY);
    }

    private void step(String name, int kind, int[] numbers) {
        int task = task(first, numbers[0]);
        int answer;
        try {
            answer = call(first, kind, numbers);
        } catch (RuntimeException e) {
            boolean right = Check.isOwn(e) && DOCUMENTED.contains(e.getClass().getName());
            Check.same(name + " throws " + e, right, true);
            return;
        }
        Check.same(name + ", on the second plan", call(second, kind, numbers), answer);
        if (kind >= FIRST_NOTE && kind <= LAST_NOTE) {
            notes.add(new int[] {task, week(numbers), noted(numbers)});
        }
    }

    /** Ordinary numbers are brought into a range, which ends somewhat behind what exists; extremes stay as they are. */
    private static int fit(int number, int range) {
        return number < 0 || number >= ORDINARY ? number : number % range;
    }

    private static int task(TicketForge plan, int number) {
        boolean beyond = number % 7 == 0 || plan.tasks() == 0;
        return fit(number, plan.tasks() + (beyond ? 1 : 0));
    }

    private static int week(int[] numbers) {
        return fit(numbers[2], 8);
    }

    private static int noted(int[] numbers) {
        return fit(numbers[3], 42);
    }

    private static int call(TicketForge plan, int kind, int[] numbers) {
        int task = task(plan, numbers[0]);
        int other = task(plan, numbers[1]);
        int week = week(numbers);
        int entry = fit(numbers[1], plan.entries() + 1);
        switch (kind) {
            case 0: return plan.addTask(numbers[3] % 3 == 0 ? -1 : task, 1 + fit(numbers[1], 401), fit(numbers[2], 401));
            case 1: return plan.block(task, other);
            case 2:
            case 3: return plan.begin(task);
            case 4:
            case 5: return plan.propose(task);
            case 6: return numbers[3] % 3 == 0 ? plan.reject(task) : plan.propose(task);
            case 7:
            case 8:
            case 9: return plan.merge(task);
            case 10: return numbers[3] % 3 == 0 ? plan.reopen(task) : plan.begin(task);
            case 11:
            case 12:
            case 13: return plan.note(task, fit(numbers[1], 4), week, noted(numbers));
            case 14:
            case 15: return plan.approve(entry);
            case 16: return numbers[3] % 40 == 0 ? plan.lock(week) : plan.invoice(task, week);
            case 17: return plan.invoice(task, week);
            default: return setRules(plan, numbers);
        }
    }

    private static int setRules(TicketForge plan, int[] numbers) {
        switch (numbers[3] & 3) {
            case 0: return plan.setRate(fit(numbers[0], 5), fit(numbers[1], 202));
            case 1: return plan.setCap(fit(numbers[0], 62));
            default: return plan.setDiscount(fit(numbers[0], 3000), fit(numbers[1], 52));
        }
    }

    private void checkWhatStands(String name) {
        Check.same(name + ": entries", first.entries(), notes.size());
        Check.same(name + ": settled", first.isSettled(), true);
        checkInvoices(name);
        checkBilledOnce(name);
        checkPace(name);
        for (int task = 0; task < first.tasks(); task++) {
            checkTree(name + ", task " + task, task);
        }
    }

    private void checkInvoices(String name) {
        long due = 0;
        for (int invoice = 0; invoice < first.invoices(); invoice++) {
            Check.same(name + ": total " + invoice, first.totalByRules(invoice), first.total(invoice));
            due += first.total(invoice) - first.credited(invoice);
        }
        Check.same(name + ": due", first.due(), due);
    }

    private void checkBilledOnce(String name) {
        int[] totals = new int[first.invoices()];
        int[] credits = new int[first.invoices()];
        int[] items = new int[first.invoices()];
        for (int entry = 0; entry < first.entries(); entry++) {
            char state = first.entryState(entry);
            if (state == 'b' || state == 'c') {
                int invoice = first.invoiceOf(entry);
                totals[invoice] += first.price(entry);
                credits[invoice] += state == 'c' ? first.price(entry) : 0;
                items[invoice]++;
            }
        }
        for (int invoice = 0; invoice < first.invoices(); invoice++) {
            Check.same(name + ": prices of " + invoice, totals[invoice], first.total(invoice));
            Check.same(name + ": credits of " + invoice, credits[invoice], first.credited(invoice));
            Check.same(name + ": items of " + invoice, items[invoice], first.items(invoice));
        }
    }

    private void checkPace(String name) {
        for (int week = 0; week < 30; week++) {
            int hours = 0;
            for (int[] each : notes) {
                hours += each[1] >= week - 2 && each[1] <= week ? each[2] : 0;
            }
            Check.same(name + ": pace of " + week, first.pace(week), hours / 3.0f);
        }
    }

    private void checkTree(String name, int task) {
        int size = 0;
        for (int each = 0; each < first.tasks(); each++) {
            if (isInTree(each, task)) {
                size++;
            }
        }
        int hours = 0;
        for (int[] each : notes) {
            hours += isInTree(each[0], task) ? each[2] : 0;
        }
        Check.same(name + ": treeSize", first.treeSize(task), size);
        Check.same(name + ": hours", first.hours(task), hours);
        boolean aboveDone = hasParent(task) && first.state(first.parent(task)) == 'd';
        Check.same(name + ": done ahead of its tree", aboveDone && first.state(task) != 'd', false);
    }

    private boolean isInTree(int task, int root) {
        int each = task;
        while (each != root && hasParent(each)) {
            each = first.parent(each);
        }
        return each == root;
    }

    private boolean hasParent(int task) {
        return Check.thrownBy(() -> first.parent(task)).equals("nothing");
    }
}
