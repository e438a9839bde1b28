import java.util.ArrayList;
import java.util.Arrays;
import java.util.NoSuchElementException;

/** A planner of work: tasks, hours, weeks, invoices and forecasts. */
public final class TicketForge {
    private static final int MAX_TASKS = 16;
    private static final int MAX_BLOCKS = 20;
    private static final int MAX_ENTRIES = 60;
    private static final int MAX_INVOICES = 20;

    private static final int NO_PARENT = -1;
    private static final int MIN_ESTIMATE = 1;
    private static final int MAX_ESTIMATE = 400;
    private static final int NO_BUDGET = 0;
    private static final int MAX_BUDGET = 400;
    // More than any budget can leave, and more than can be noted at once.
    private static final int NO_LIMIT = MAX_BUDGET + 1;

    private static final int PERSONS = 4;
    private static final int WEEKS = 30;
    private static final int MIN_HOURS = 1;
    private static final int MAX_HOURS = 40;
    private static final int PACE_WEEKS = 3;

    private static final int FIRST_RATE = 50;
    private static final int MAX_RATE = 200;
    private static final int FIRST_CAP = 40;
    private static final int MAX_CAP = 60;
    private static final int MAX_DISCOUNT_FROM = 99999;
    private static final int MAX_DISCOUNT_PERCENT = 50;

    private static final char OPEN = 'o';
    private static final char IN_WORK = 'w';
    private static final char IN_REVIEW = 'r';
    private static final char DONE = 'd';

    private static final char NOTED = 'n';
    private static final char APPROVED = 'a';
    private static final char BILLED = 'b';
    private static final char CREDITED = 'c';
    private static final char NOT_BILLABLE = 'x';

    private final ArrayList<Task> taskList;
    private final ArrayList<Entry> entryList;
    private final ArrayList<Invoice> invoiceList;
    private final Rules rules;
    private int greatestCap;
    private int blockCount;
    // A bit for each week: 30 weeks fit into one int.
    private int lockedWeeks;

    public TicketForge() {
        taskList = new ArrayList<>();
        entryList = new ArrayList<>();
        invoiceList = new ArrayList<>();
        int[] rates = new int[PERSONS];
        Arrays.fill(rates, FIRST_RATE);
        rules = new Rules(rates, FIRST_CAP, 0, 0);
        greatestCap = FIRST_CAP;
        blockCount = 0;
        lockedWeeks = 0;
    }

    // Tasks and branches.

    public int addTask(int parent, int estimate, int budget)
            throws IndexOutOfBoundsException, IllegalArgumentException, IllegalStateException,
            UnsupportedOperationException {
        Task above = parent == NO_PARENT ? null : requireTask(parent);
        if (!isBetween(estimate, MIN_ESTIMATE, MAX_ESTIMATE) || !isBetween(budget, NO_BUDGET, MAX_BUDGET)) {
            throw new IllegalArgumentException("the estimate or the budget is out of range");
        }
        if (taskList.size() >= MAX_TASKS) {
            throw new IllegalStateException("there are 16 tasks");
        }
        if (above != null && above.state == DONE) {
            throw new UnsupportedOperationException("the parent is done");
        }
        Task added = new Task(taskList.size(), above, estimate, budget);
        taskList.add(added);
        return added.number;
    }

    public int block(int task, int other)
            throws IndexOutOfBoundsException, IllegalArgumentException, IllegalStateException,
            UnsupportedOperationException {
        Task blocker = requireTask(task);
        Task blocked = requireTask(other);
        if (task == other) {
            throw new IllegalArgumentException("a task does not block itself");
        }
        if (blocked.isBlockedBy(blocker) || blockCount >= MAX_BLOCKS) {
            throw new IllegalStateException("it blocks the other one, or there are 20 blocks");
        }
        if (isBlockedByChain(blocker, blocked)) {
            throw new UnsupportedOperationException("the other one blocks it");
        }
        blocked.addBlocker(blocker);
        blockCount++;
        return Integer.bitCount(blocked.blockers);
    }

    public int begin(int task)
            throws IndexOutOfBoundsException, IllegalStateException, UnsupportedOperationException {
        Task begun = requireTask(task);
        requireState(begun, OPEN);
        if (!areBlockersDone(begun)) {
            throw new UnsupportedOperationException("a task that blocks it is not done");
        }
        begun.state = IN_WORK;
        return countTasks(IN_WORK);
    }

    public int propose(int task) throws IndexOutOfBoundsException, IllegalStateException {
        Task proposed = requireTask(task);
        requireState(proposed, IN_WORK);
        proposed.state = IN_REVIEW;
        return countTasks(IN_REVIEW);
    }

    public int reject(int task) throws IndexOutOfBoundsException, IllegalStateException {
        Task rejected = requireTask(task);
        requireState(rejected, IN_REVIEW);
        rejected.state = IN_WORK;
        return countTasks(IN_REVIEW);
    }

    public int merge(int task)
            throws IndexOutOfBoundsException, IllegalStateException, UnsupportedOperationException {
        Task merged = requireTask(task);
        requireState(merged, IN_REVIEW);
        if (!areChildrenDone(merged)) {
            throw new UnsupportedOperationException("a task whose parent it is is not done");
        }
        merged.state = DONE;
        return countTasks(DONE);
    }

    public int reopen(int task)
            throws IndexOutOfBoundsException, IllegalStateException, UnsupportedOperationException {
        Task reopened = requireTask(task);
        requireState(reopened, DONE);
        Task above = reopened.parent;
        if (above != null && above.state == DONE) {
            throw new UnsupportedOperationException("the parent is done");
        }
        reopened.state = IN_WORK;
        return creditEntries(reopened);
    }

    public char state(int task) throws IndexOutOfBoundsException {
        return requireTask(task).state;
    }

    public int parent(int task) throws IndexOutOfBoundsException, NoSuchElementException {
        Task above = requireTask(task).parent;
        if (above == null) {
            throw new NoSuchElementException("the task has no parent");
        }
        return above.number;
    }

    public int treeSize(int task) throws IndexOutOfBoundsException {
        Task root = requireTask(task);
        int size = 0;
        for (int i = 0; i < taskList.size(); i++) {
            if (taskList.get(i).isInTreeOf(root)) {
                size++;
            }
        }
        return size;
    }

    public boolean canBegin(int task) throws IndexOutOfBoundsException {
        Task asked = requireTask(task);
        return asked.state == OPEN && areBlockersDone(asked);
    }

    public int tasks() {
        return taskList.size();
    }

    // Hours and weeks.

    public int note(int task, int person, int week, int hours)
            throws IndexOutOfBoundsException, IllegalArgumentException, UnsupportedOperationException,
            IllegalStateException {
        Task worked = requireTask(task);
        if (!isPerson(person) || !isWeek(week) || !isBetween(hours, MIN_HOURS, MAX_HOURS)) {
            throw new IllegalArgumentException("the person, the week or the hours are out of range");
        }
        if (isLocked(week)) {
            throw new UnsupportedOperationException("the week is locked");
        }
        if (worked.state != IN_WORK && worked.state != IN_REVIEW) {
            throw new IllegalStateException("the task is neither in work nor in review");
        }
        if (hours > roomOf(worked) || entryList.size() >= MAX_ENTRIES) {
            throw new IllegalStateException("a budget would be too small, or there are 60 entries");
        }
        entryList.add(new Entry(worked, person, week, hours));
        return entryList.size() - 1;
    }

    public int approve(int entry)
            throws NoSuchElementException, IllegalStateException, UnsupportedOperationException {
        Entry approved = requireEntry(entry);
        if (approved.state != NOTED) {
            throw new IllegalStateException("the entry is not noted");
        }
        if (isLocked(approved.week)) {
            throw new UnsupportedOperationException("the week is locked");
        }
        approved.state = APPROVED;
        return approvedHours(approved.week);
    }

    public int lock(int week) throws IllegalArgumentException, IllegalStateException {
        requireWeek(week);
        if (isLocked(week)) {
            throw new IllegalStateException("the week is locked");
        }
        lockedWeeks |= 1 << week;
        return dropNotedEntries(week);
    }

    public char entryState(int entry) throws NoSuchElementException {
        return requireEntry(entry).state;
    }

    public int price(int entry) throws NoSuchElementException, IllegalStateException {
        Entry priced = requireEntry(entry);
        requireInvoiceOf(priced);
        return priced.price;
    }

    public int entries() {
        return entryList.size();
    }

    public int hours(int task) throws IndexOutOfBoundsException {
        return treeHours(requireTask(task));
    }

    public int room(int task) throws IndexOutOfBoundsException, NoSuchElementException {
        int least = roomOf(requireTask(task));
        if (least == NO_LIMIT) {
            throw new NoSuchElementException("no budget applies to the task");
        }
        return least;
    }

    // Rules and invoices.

    public int setRate(int person, int rate) throws IllegalArgumentException {
        if (!isPerson(person) || !isBetween(rate, 0, MAX_RATE)) {
            throw new IllegalArgumentException("the person or the rate is out of range");
        }
        int before = rules.rateOf(person);
        rules.changeRate(person, rate);
        return before;
    }

    public int setCap(int hours) throws IllegalArgumentException {
        if (!isBetween(hours, 0, MAX_CAP)) {
            throw new IllegalArgumentException("the hours are out of range");
        }
        int before = rules.cap;
        rules.cap = hours;
        greatestCap = Math.max(greatestCap, hours);
        return before;
    }

    public int setDiscount(int from, int percent) throws IllegalArgumentException {
        if (!isBetween(from, 0, MAX_DISCOUNT_FROM) || !isBetween(percent, 0, MAX_DISCOUNT_PERCENT)) {
            throw new IllegalArgumentException("the sum or the percentage is out of range");
        }
        int before = rules.discountPercent;
        rules.discountFrom = from;
        rules.discountPercent = percent;
        return before;
    }

    public int invoice(int task, int week)
            throws IndexOutOfBoundsException, IllegalArgumentException, UnsupportedOperationException,
            IllegalStateException {
        Task root = requireTask(task);
        requireWeek(week);
        if (root.parent != null) {
            throw new UnsupportedOperationException("the task has a parent");
        }
        if (!hasEntryToInvoice(root, week) || invoiceList.size() >= MAX_INVOICES) {
            throw new IllegalStateException("there is no entry to look at, or there are 20 invoices");
        }
        Invoice made = new Invoice(invoiceList.size(), rules.copy());
        int sum = billEntries(made, root, week);
        made.total = discountPrices(made, sum);
        invoiceList.add(made);
        return made.number;
    }

    public int invoices() {
        return invoiceList.size();
    }

    public int total(int invoice) throws NoSuchElementException {
        return requireInvoice(invoice).total;
    }

    public int totalByRules(int invoice) throws NoSuchElementException {
        return recomputeTotal(requireInvoice(invoice));
    }

    public int credited(int invoice) throws NoSuchElementException {
        return requireInvoice(invoice).credited;
    }

    public int items(int invoice) throws NoSuchElementException {
        Invoice asked = requireInvoice(invoice);
        int count = 0;
        for (int i = 0; i < entryList.size(); i++) {
            if (entryList.get(i).invoice == asked) {
                count++;
            }
        }
        return count;
    }

    public int invoiceOf(int entry) throws NoSuchElementException, IllegalStateException {
        return requireInvoiceOf(requireEntry(entry)).number;
    }

    // Forecasts and figures.

    public int left(int task) throws IndexOutOfBoundsException {
        return leftOf(requireTask(task));
    }

    public float pace(int week) throws IllegalArgumentException {
        requireWeek(week);
        return (float) paceHours(week) / 3.0f;
    }

    public int forecast(int task, int week)
            throws IndexOutOfBoundsException, IllegalArgumentException, ArithmeticException {
        Task asked = requireTask(task);
        requireWeek(week);
        int hours = paceHours(week);
        if (hours <= 0) {
            throw new ArithmeticException("the pace is 0");
        }
        return (leftOf(asked) * PACE_WEEKS + hours - 1) / hours;
    }

    public long due() {
        long sum = 0;
        for (int i = 0; i < invoiceList.size(); i++) {
            Invoice each = invoiceList.get(i);
            sum += each.total - each.credited;
        }
        return sum;
    }

    public double meanPrice() throws ArithmeticException {
        int prices = 0;
        int hours = 0;
        for (int i = 0; i < entryList.size(); i++) {
            Entry each = entryList.get(i);
            if (each.state == BILLED) {
                prices += each.price;
                hours += each.hours;
            }
        }
        if (hours <= 0) {
            throw new ArithmeticException("no entry is billed");
        }
        return (double) prices / (double) hours;
    }

    public boolean isSettled() {
        for (int i = 0; i < invoiceList.size(); i++) {
            Invoice each = invoiceList.get(i);
            if (each.total != recomputeTotal(each) || each.credited != creditedPrices(each)) {
                return false;
            }
        }
        return areChargedHoursWithin(greatestCap);
    }

    // What exists and what is in range.

    private static boolean isBetween(int value, int least, int greatest) {
        return value >= least && value <= greatest;
    }

    private static boolean isPerson(int person) {
        return isBetween(person, 0, PERSONS - 1);
    }

    private static boolean isWeek(int week) {
        return isBetween(week, 0, WEEKS - 1);
    }

    private static void requireWeek(int week) throws IllegalArgumentException {
        if (!isWeek(week)) {
            throw new IllegalArgumentException("there is no such week");
        }
    }

    private Task requireTask(int task) throws IndexOutOfBoundsException {
        if (task < 0 || task >= taskList.size()) {
            throw new IndexOutOfBoundsException("there is no such task");
        }
        return taskList.get(task);
    }

    private static void requireState(Task task, char due) throws IllegalStateException {
        if (task.state != due) {
            throw new IllegalStateException("the task is in another state");
        }
    }

    private Entry requireEntry(int entry) throws NoSuchElementException {
        if (entry < 0 || entry >= entryList.size()) {
            throw new NoSuchElementException("there is no such entry");
        }
        return entryList.get(entry);
    }

    private Invoice requireInvoice(int invoice) throws NoSuchElementException {
        if (invoice < 0 || invoice >= invoiceList.size()) {
            throw new NoSuchElementException("there is no such invoice");
        }
        return invoiceList.get(invoice);
    }

    private static Invoice requireInvoiceOf(Entry entry) throws IllegalStateException {
        Invoice by = entry.invoice;
        if (by == null) {
            throw new IllegalStateException("the entry is neither billed nor credited");
        }
        return by;
    }

    // Tasks, their states and their blocks.

    private int countTasks(char state) {
        int count = 0;
        for (int i = 0; i < taskList.size(); i++) {
            if (taskList.get(i).state == state) {
                count++;
            }
        }
        return count;
    }

    private boolean areBlockersDone(Task task) {
        for (int i = 0; i < taskList.size(); i++) {
            Task each = taskList.get(i);
            if (task.isBlockedBy(each) && each.state != DONE) {
                return false;
            }
        }
        return true;
    }

    private boolean areChildrenDone(Task task) {
        for (int i = 0; i < taskList.size(); i++) {
            Task each = taskList.get(i);
            if (each.parent == task && each.state != DONE) {
                return false;
            }
        }
        return true;
    }

    private boolean isBlockedByChain(Task task, Task blocker) {
        int found = task.blockers;
        // No chain of blocks is longer than the tasks are many, so that many rounds find them all.
        for (int round = 0; round < MAX_TASKS; round++) {
            for (int i = 0; i < taskList.size(); i++) {
                Task each = taskList.get(i);
                if ((found & each.bit()) != 0) {
                    found |= each.blockers;
                }
            }
        }
        return (found & blocker.bit()) != 0;
    }

    // Hours, budgets and weeks.

    private int treeHours(Task root) {
        int sum = 0;
        for (int i = 0; i < entryList.size(); i++) {
            Entry each = entryList.get(i);
            if (each.task.isInTreeOf(root)) {
                sum += each.hours;
            }
        }
        return sum;
    }

    private int roomOf(Task task) {
        int least = NO_LIMIT;
        for (Task each = task; each != null; each = each.parent) {
            if (each.budget != NO_BUDGET) {
                least = Math.min(least, each.budget - treeHours(each));
            }
        }
        return least;
    }

    private int leftOf(Task task) {
        int remaining = task.estimate;
        for (int i = 0; i < entryList.size(); i++) {
            Entry each = entryList.get(i);
            if (each.task == task) {
                remaining -= each.hours;
            }
        }
        return Math.max(remaining, 0);
    }

    private int paceHours(int week) {
        int sum = 0;
        for (int i = 0; i < entryList.size(); i++) {
            Entry each = entryList.get(i);
            if (each.week <= week && each.week > week - PACE_WEEKS) {
                sum += each.hours;
            }
        }
        return sum;
    }

    private boolean isLocked(int week) {
        return (lockedWeeks & (1 << week)) != 0;
    }

    private int approvedHours(int week) {
        int sum = 0;
        for (int i = 0; i < entryList.size(); i++) {
            Entry each = entryList.get(i);
            if (each.week == week && each.state == APPROVED) {
                sum += each.hours;
            }
        }
        return sum;
    }

    private int dropNotedEntries(int week) {
        int count = 0;
        for (int i = 0; i < entryList.size(); i++) {
            Entry each = entryList.get(i);
            if (each.week == week && each.state == NOTED) {
                each.state = NOT_BILLABLE;
                count++;
            }
        }
        return count;
    }

    // Invoices and credits.

    private static boolean isToInvoice(Entry entry, Task root, int week) {
        return entry.state == APPROVED && entry.week <= week
                && entry.task.state == DONE && entry.task.isInTreeOf(root);
    }

    private boolean hasEntryToInvoice(Task root, int week) {
        for (int i = 0; i < entryList.size(); i++) {
            if (isToInvoice(entryList.get(i), root, week)) {
                return true;
            }
        }
        return false;
    }

    private int chargedHours(int person, int week) {
        int sum = 0;
        for (int i = 0; i < entryList.size(); i++) {
            Entry each = entryList.get(i);
            if (each.invoice != null && each.person == person && each.week == week) {
                sum += each.hours;
            }
        }
        return sum;
    }

    // Each entry is marked at once: the cap of a later one counts the hours of the earlier ones.
    private int billEntries(Invoice made, Task root, int week) {
        int sum = 0;
        for (int i = 0; i < entryList.size(); i++) {
            Entry each = entryList.get(i);
            if (!isToInvoice(each, root, week)) {
                continue;
            }
            if (chargedHours(each.person, each.week) + each.hours > made.rules.cap) {
                each.state = NOT_BILLABLE;
            } else {
                each.state = BILLED;
                each.invoice = made;
                each.price = made.rules.fullPrice(each);
                sum += each.price;
            }
        }
        return sum;
    }

    private int discountPrices(Invoice made, int sum) {
        int total = 0;
        for (int i = 0; i < entryList.size(); i++) {
            Entry each = entryList.get(i);
            if (each.invoice == made) {
                each.price = made.rules.discounted(each.price, sum);
                total += each.price;
            }
        }
        return total;
    }

    private int recomputeTotal(Invoice invoice) {
        int sum = 0;
        for (int i = 0; i < entryList.size(); i++) {
            Entry each = entryList.get(i);
            if (each.invoice == invoice) {
                sum += invoice.rules.fullPrice(each);
            }
        }
        int total = 0;
        for (int i = 0; i < entryList.size(); i++) {
            Entry each = entryList.get(i);
            if (each.invoice == invoice) {
                total += invoice.rules.discounted(invoice.rules.fullPrice(each), sum);
            }
        }
        return total;
    }

    private int creditEntries(Task task) {
        int sum = 0;
        for (int i = 0; i < entryList.size(); i++) {
            Entry each = entryList.get(i);
            Invoice by = each.invoice;
            if (each.task == task && each.state == BILLED && by != null) {
                each.state = CREDITED;
                by.credited += each.price;
                sum += each.price;
            }
        }
        return sum;
    }

    private int creditedPrices(Invoice invoice) {
        int sum = 0;
        for (int i = 0; i < entryList.size(); i++) {
            Entry each = entryList.get(i);
            if (each.invoice == invoice && each.state == CREDITED) {
                sum += each.price;
            }
        }
        return sum;
    }

    private boolean areChargedHoursWithin(int cap) {
        for (int i = 0; i < entryList.size(); i++) {
            Entry each = entryList.get(i);
            if (each.invoice != null && chargedHours(each.person, each.week) > cap) {
                return false;
            }
        }
        return true;
    }

    private static final class Task {
        final int number;
        final Task parent;
        final int estimate;
        final int budget;
        char state;
        // A bit for the number of each task that blocks this one directly.
        int blockers;

        Task(int number, Task parent, int estimate, int budget) {
            this.number = number;
            this.parent = parent;
            this.estimate = estimate;
            this.budget = budget;
            state = OPEN;
            blockers = 0;
        }

        int bit() {
            return 1 << number;
        }

        boolean isBlockedBy(Task other) {
            return (blockers & other.bit()) != 0;
        }

        void addBlocker(Task other) {
            blockers |= other.bit();
        }

        boolean isInTreeOf(Task root) {
            for (Task each = this; each != null; each = each.parent) {
                if (each == root) {
                    return true;
                }
            }
            return false;
        }
    }

    private static final class Entry {
        final Task task;
        final int person;
        final int week;
        final int hours;
        char state;
        int price;
        // Null until the entry is billed; a credited entry keeps the invoice by which it was billed.
        Invoice invoice;

        Entry(Task task, int person, int week, int hours) {
            this.task = task;
            this.person = person;
            this.week = week;
            this.hours = hours;
            state = NOTED;
            price = 0;
            invoice = null;
        }
    }

    private static final class Invoice {
        final int number;
        // A copy of its own: rules that are set later do not change an invoice that is made.
        final Rules rules;
        int total;
        int credited;

        Invoice(int number, Rules rules) {
            this.number = number;
            this.rules = rules;
            total = 0;
            credited = 0;
        }
    }

    private static final class Rules {
        private final int[] rates;
        int cap;
        int discountFrom;
        int discountPercent;

        Rules(int[] rates, int cap, int discountFrom, int discountPercent) {
            this.rates = rates;
            this.cap = cap;
            this.discountFrom = discountFrom;
            this.discountPercent = discountPercent;
        }

        Rules copy() {
            return new Rules(rates.clone(), cap, discountFrom, discountPercent);
        }

        int rateOf(int person) {
            return person >= 0 && person < rates.length ? rates[person] : 0;
        }

        void changeRate(int person, int rate) {
            if (person >= 0 && person < rates.length) {
                rates[person] = rate;
            }
        }

        int fullPrice(Entry entry) {
            return entry.hours * rateOf(entry.person);
        }

        int discounted(int price, int sum) {
            return sum >= discountFrom ? price * (100 - discountPercent) / 100 : price;
        }
    }
}
