/** Promises 1 to 13: tasks, blocks and branches. */
final class TasksTest {
    private TasksTest() {
    }

    public static void main(String[] args) {
        newObject();
        addTask();
        addTaskRefuses();
        addTaskUnderParents();
        block();
        blockRefuses();
        blockFindsLongRings();
        blockLimit();
        blockInAnyState();
        begin();
        beginLooksAtDirectBlocksAlone();
        propose();
        reject();
        merge();
        mergeWaitsForChildren();
        reopen();
        reopenLooksAtTheParent();
        state();
        parent();
        treeSize();
        canBegin();
        tasks();
        Check.finish("TasksTest");
    }

    private static void newObject() {
        TicketForge plan = new TicketForge();
        Check.same("tasks of a new plan", plan.tasks(), 0);
        Check.same("entries of a new plan", plan.entries(), 0);
        Check.same("invoices of a new plan", plan.invoices(), 0);
        for (int person = 0; person < 4; person++) {
            Check.same("first rate of " + person, plan.setRate(person, 1), 50);
        }
        Check.same("first cap", plan.setCap(1), 40);
        Check.same("first percentage", plan.setDiscount(1, 1), 0);
        TicketForge other = new TicketForge();
        Check.same("rate of another plan", other.setRate(0, 2), 50);
        Check.same("cap of another plan", other.setCap(2), 40);
    }

    private static void addTask() {
        TicketForge plan = new TicketForge();
        Check.same("first task", plan.addTask(-1, 1, 0), 0);
        Check.same("second task", plan.addTask(-1, 400, 400), 1);
        Check.same("third task", plan.addTask(0, 7, 1), 2);
        Check.same("its state", plan.state(2), 'o');
        Check.same("its parent", plan.parent(2), 0);
        Check.same("its estimate", plan.left(2), 7);
        Check.same("its budget", plan.room(2), 1);
        Check.same("the greatest estimate", plan.left(1), 400);
        Check.same("the greatest budget", plan.room(1), 400);
        Check.refused("room without a budget", Plans.NO_SUCH, plan, () -> plan.room(0));
    }

    private static void addTaskRefuses() {
        TicketForge plan = Plans.open(2);
        Check.refused("addTask(2,..)", Plans.INDEX, plan, () -> plan.addTask(2, 5, 0));
        for (int never : Plans.NEVER) {
            if (never != -1) {
                Check.refused("addTask(never)", Plans.INDEX, plan, () -> plan.addTask(never, 0, -1));
            }
        }
        for (int estimate : new int[] {0, -1, 401, Integer.MIN_VALUE, Integer.MAX_VALUE}) {
            Check.refused("estimate " + estimate, Plans.ARGUMENT, plan, () -> plan.addTask(-1, estimate, 0));
        }
        for (int budget : new int[] {-1, 401, Integer.MIN_VALUE, Integer.MAX_VALUE}) {
            Check.refused("budget " + budget, Plans.ARGUMENT, plan, () -> plan.addTask(0, 5, budget));
        }
        Plans.beginAndEnd(plan, 0);
        Check.refused("a parent that is done", Plans.UNSUPPORTED, plan, () -> plan.addTask(0, 5, 0));
        Check.refused("argument ahead of the parent", Plans.ARGUMENT, plan, () -> plan.addTask(0, 0, 0));
        for (int i = 2; i < 16; i++) {
            Check.same("task " + i, plan.addTask(-1, 5, 0), i);
        }
        Check.refused("a 17th task", Plans.STATE, plan, () -> plan.addTask(-1, 5, 0));
        Check.refused("a 17th task, parent done", Plans.STATE, plan, () -> plan.addTask(0, 5, 0));
        Check.refused("a 17th task, bad budget", Plans.ARGUMENT, plan, () -> plan.addTask(-1, 5, 401));
        Check.refused("a 17th task, bad parent", Plans.INDEX, plan, () -> plan.addTask(16, 5, 0));
    }

    private static void addTaskUnderParents() {
        TicketForge plan = Plans.open(1);
        Check.same("under an open one", plan.addTask(0, 5, 0), 1);
        plan.begin(0);
        Check.same("under one in work", plan.addTask(0, 5, 0), 2);
        plan.propose(0);
        Check.same("under one in review", plan.addTask(0, 5, 0), 3);
        plan.addTask(-1, 5, 0);
        Plans.beginAndEnd(plan, 4);
        plan.reopen(4);
        Check.same("under one reopened", plan.addTask(4, 5, 0), 5);
    }

    private static void block() {
        TicketForge plan = Plans.open(4);
        Check.same("block(0, 3)", plan.block(0, 3), 1);
        Check.same("block(1, 3)", plan.block(1, 3), 2);
        Check.same("block(0, 1)", plan.block(0, 1), 1);
        Check.same("block(2, 3)", plan.block(2, 3), 3);
        Check.same("0 can begin", plan.canBegin(0), true);
        Check.same("1 can begin", plan.canBegin(1), false);
        Check.same("2 can begin", plan.canBegin(2), true);
        Check.same("3 can begin", plan.canBegin(3), false);
        TicketForge family = new TicketForge();
        family.addTask(-1, 5, 0);
        family.addTask(0, 5, 0);
        Check.same("a parent blocks", family.block(0, 1), 1);
    }

    private static void blockRefuses() {
        TicketForge plan = Plans.open(5);
        plan.block(0, 1);
        plan.block(1, 2);
        plan.block(2, 3);
        for (int never : Plans.NEVER) {
            Check.refused("block(never, 0)", Plans.INDEX, plan, () -> plan.block(never, 0));
            Check.refused("block(0, never)", Plans.INDEX, plan, () -> plan.block(0, never));
            Check.refused("block(never, never)", Plans.INDEX, plan, () -> plan.block(never, never));
        }
        Check.refused("block(5, 0)", Plans.INDEX, plan, () -> plan.block(5, 0));
        Check.refused("block(0, 5)", Plans.INDEX, plan, () -> plan.block(0, 5));
        Check.refused("block(4, 4)", Plans.ARGUMENT, plan, () -> plan.block(4, 4));
        Check.refused("block(0, 1) again", Plans.STATE, plan, () -> plan.block(0, 1));
        Check.refused("block(1, 0)", Plans.UNSUPPORTED, plan, () -> plan.block(1, 0));
        Check.refused("block(2, 0)", Plans.UNSUPPORTED, plan, () -> plan.block(2, 0));
        Check.refused("block(3, 0)", Plans.UNSUPPORTED, plan, () -> plan.block(3, 0));
        Check.same("block(0, 3), by others already", plan.block(0, 3), 2);
        Check.same("block(4, 0)", plan.block(4, 0), 1);
        Check.refused("block(3, 4)", Plans.UNSUPPORTED, plan, () -> plan.block(3, 4));
    }

    private static void blockFindsLongRings() {
        TicketForge up = Plans.open(16);
        TicketForge down = Plans.open(16);
        for (int task = 0; task < 15; task++) {
            Check.same("up", up.block(task, task + 1), 1);
            Check.same("down", down.block(task + 1, task), 1);
        }
        Check.refused("a ring of 16 tasks, up", Plans.UNSUPPORTED, up, () -> up.block(15, 0));
        Check.refused("a ring of 16 tasks, down", Plans.UNSUPPORTED, down, () -> down.block(0, 15));
        Check.same("a shorter way is no ring, up", up.block(0, 15), 2);
        Check.same("a shorter way is no ring, down", down.block(15, 0), 2);
    }

    private static void blockLimit() {
        TicketForge plan = Plans.open(16);
        for (int task = 0; task < 10; task++) {
            Check.same("block(.., 15)", plan.block(task, 15), task + 1);
        }
        for (int other = 15; other > 5; other--) {
            if (other != 15) {
                plan.block(0, other);
            }
        }
        Check.same("the 20th block", plan.block(1, 2), 1);
        Check.refused("a 21st block", Plans.STATE, plan, () -> plan.block(3, 4));
        Check.refused("a 21st block, a ring", Plans.STATE, plan, () -> plan.block(15, 0));
        Check.refused("a 21st block, the same", Plans.ARGUMENT, plan, () -> plan.block(3, 3));
        Check.refused("a 21st block, no task", Plans.INDEX, plan, () -> plan.block(3, 16));
        Check.same("4 can begin", plan.canBegin(4), true);
    }

    private static void blockInAnyState() {
        TicketForge plan = Plans.open(3);
        Plans.beginAndEnd(plan, 2);
        plan.begin(1);
        Check.same("block one in work", plan.block(0, 1), 1);
        Check.same("block one that is done", plan.block(0, 2), 1);
        Check.same("block by one that is done", plan.block(2, 1), 2);
        Check.same("1 is in work still", plan.state(1), 'w');
        Check.same("2 is done still", plan.state(2), 'd');
        plan.propose(1);
        Check.same("a block does not stop a merge", plan.merge(1), 2);
    }

    private static void begin() {
        TicketForge plan = Plans.open(4);
        plan.block(0, 2);
        plan.block(1, 2);
        Check.same("begin(0)", plan.begin(0), 1);
        Check.same("state(0)", plan.state(0), 'w');
        Check.same("begin(1)", plan.begin(1), 2);
        Check.refused("begin of one in work", Plans.STATE, plan, () -> plan.begin(0));
        Check.refused("begin of a blocked one", Plans.UNSUPPORTED, plan, () -> plan.begin(2));
        plan.propose(0);
        Check.refused("begin of one in review", Plans.STATE, plan, () -> plan.begin(0));
        Check.refused("blocked by one in review", Plans.UNSUPPORTED, plan, () -> plan.begin(2));
        plan.merge(0);
        Check.refused("begin of one that is done", Plans.STATE, plan, () -> plan.begin(0));
        Check.refused("one of two blocks is left", Plans.UNSUPPORTED, plan, () -> plan.begin(2));
        Plans.end(plan, 1);
        Check.same("begin(2), all done", plan.begin(2), 1);
        plan.block(3, 2);
        Check.refused("state ahead of blocks", Plans.STATE, plan, () -> plan.begin(2));
        Check.refused("begin(4)", Plans.INDEX, plan, () -> plan.begin(4));
        for (int never : Plans.NEVER) {
            Check.refused("begin(never)", Plans.INDEX, plan, () -> plan.begin(never));
        }
        TicketForge family = new TicketForge();
        family.addTask(-1, 5, 0);
        family.addTask(0, 5, 0);
        Check.same("a child ahead of its parent", family.begin(1), 1);
    }

    private static void beginLooksAtDirectBlocksAlone() {
        TicketForge plan = Plans.open(3);
        plan.block(0, 1);
        plan.block(1, 2);
        Plans.beginAndEnd(plan, 0);
        Plans.beginAndEnd(plan, 1);
        plan.reopen(0);
        Check.same("can begin, its own block is done", plan.canBegin(2), true);
        Check.same("begin(2)", plan.begin(2), 2);
    }

    private static void propose() {
        TicketForge plan = Plans.open(3);
        plan.begin(0);
        plan.begin(1);
        Check.same("propose(0)", plan.propose(0), 1);
        Check.same("propose(1)", plan.propose(1), 2);
        Check.same("state(1)", plan.state(1), 'r');
        Check.refused("propose of one in review", Plans.STATE, plan, () -> plan.propose(1));
        Check.refused("propose of an open one", Plans.STATE, plan, () -> plan.propose(2));
        plan.merge(1);
        Check.refused("propose of one that is done", Plans.STATE, plan, () -> plan.propose(1));
        Check.refused("propose(3)", Plans.INDEX, plan, () -> plan.propose(3));
        for (int never : Plans.NEVER) {
            Check.refused("propose(never)", Plans.INDEX, plan, () -> plan.propose(never));
        }
    }

    private static void reject() {
        TicketForge plan = Plans.open(3);
        plan.begin(0);
        plan.begin(1);
        plan.propose(0);
        plan.propose(1);
        Check.same("reject(0)", plan.reject(0), 1);
        Check.same("state(0)", plan.state(0), 'w');
        Check.refused("reject of one in work", Plans.STATE, plan, () -> plan.reject(0));
        Check.refused("reject of an open one", Plans.STATE, plan, () -> plan.reject(2));
        Check.same("propose(0) again", plan.propose(0), 2);
        plan.merge(0);
        Check.refused("reject of one that is done", Plans.STATE, plan, () -> plan.reject(0));
        Check.same("reject(1)", plan.reject(1), 0);
        Check.refused("reject(3)", Plans.INDEX, plan, () -> plan.reject(3));
        for (int never : Plans.NEVER) {
            Check.refused("reject(never)", Plans.INDEX, plan, () -> plan.reject(never));
        }
    }

    private static void merge() {
        TicketForge plan = Plans.open(3);
        plan.begin(0);
        plan.begin(1);
        Check.refused("merge of an open one", Plans.STATE, plan, () -> plan.merge(2));
        Check.refused("merge of one in work", Plans.STATE, plan, () -> plan.merge(0));
        plan.propose(0);
        plan.propose(1);
        Check.same("merge(0)", plan.merge(0), 1);
        Check.same("state(0)", plan.state(0), 'd');
        Check.refused("merge of one that is done", Plans.STATE, plan, () -> plan.merge(0));
        Check.same("merge(1)", plan.merge(1), 2);
        Check.refused("merge(3)", Plans.INDEX, plan, () -> plan.merge(3));
        for (int never : Plans.NEVER) {
            Check.refused("merge(never)", Plans.INDEX, plan, () -> plan.merge(never));
        }
    }

    private static void mergeWaitsForChildren() {
        TicketForge plan = Plans.open(1);
        plan.addTask(0, 5, 0);
        plan.addTask(0, 5, 0);
        plan.begin(0);
        Check.refused("state ahead of children", Plans.STATE, plan, () -> plan.merge(0));
        plan.propose(0);
        Check.refused("children are open", Plans.UNSUPPORTED, plan, () -> plan.merge(0));
        Plans.beginAndEnd(plan, 1);
        plan.begin(2);
        Check.refused("a child is in work", Plans.UNSUPPORTED, plan, () -> plan.merge(0));
        plan.propose(2);
        Check.refused("a child is in review", Plans.UNSUPPORTED, plan, () -> plan.merge(0));
        Check.same("merge of the child", plan.merge(2), 2);
        Check.same("merge of the parent", plan.merge(0), 3);
    }

    private static void reopen() {
        TicketForge plan = Plans.open(2);
        Check.refused("reopen of an open one", Plans.STATE, plan, () -> plan.reopen(0));
        plan.begin(0);
        Check.refused("reopen of one in work", Plans.STATE, plan, () -> plan.reopen(0));
        Plans.work(plan, 0, 0, 0, 3);
        Plans.work(plan, 0, 1, 0, 4);
        plan.note(0, 1, 0, 5);
        plan.propose(0);
        Check.refused("reopen of one in review", Plans.STATE, plan, () -> plan.reopen(0));
        plan.merge(0);
        plan.invoice(0, 0);
        Check.same("reopen(0)", plan.reopen(0), 350);
        Check.same("state(0)", plan.state(0), 'w');
        Check.same("entry 0", plan.entryState(0), 'c');
        Check.same("entry 1", plan.entryState(1), 'c');
        Check.same("entry 2, not billed", plan.entryState(2), 'n');
        Plans.end(plan, 0);
        Check.same("nothing is credited twice", plan.reopen(0), 0);
        Check.same("credited", plan.credited(0), 350);
        Check.refused("reopen(2)", Plans.INDEX, plan, () -> plan.reopen(2));
        for (int never : Plans.NEVER) {
            Check.refused("reopen(never)", Plans.INDEX, plan, () -> plan.reopen(never));
        }
    }

    private static void reopenLooksAtTheParent() {
        TicketForge plan = Plans.open(1);
        plan.addTask(0, 5, 0);
        plan.addTask(1, 5, 0);
        plan.begin(0);
        plan.begin(1);
        Check.refused("state ahead of the parent", Plans.STATE, plan, () -> plan.reopen(1));
        Plans.beginAndEnd(plan, 2);
        Plans.end(plan, 1);
        Check.refused("the parent is done", Plans.UNSUPPORTED, plan, () -> plan.reopen(2));
        Check.same("the parent is in work", plan.reopen(1), 0);
        Plans.end(plan, 1);
        Plans.end(plan, 0);
        Check.refused("the parent is done, 1", Plans.UNSUPPORTED, plan, () -> plan.reopen(1));
        plan.reopen(0);
        Check.refused("its own parent counts, 2", Plans.UNSUPPORTED, plan, () -> plan.reopen(2));
        plan.reopen(1);
        Check.same("reopen(2)", plan.reopen(2), 0);
        Check.same("state(2)", plan.state(2), 'w');
    }

    private static void state() {
        TicketForge plan = Plans.open(2);
        Check.same("open", plan.state(0), 'o');
        plan.begin(0);
        Check.same("in work", plan.state(0), 'w');
        plan.propose(0);
        Check.same("in review", plan.state(0), 'r');
        plan.merge(0);
        Check.same("done", plan.state(0), 'd');
        Check.same("the other one", plan.state(1), 'o');
        Check.refused("state(2)", Plans.INDEX, plan, () -> plan.state(2));
        for (int never : Plans.NEVER) {
            Check.refused("state(never)", Plans.INDEX, plan, () -> plan.state(never));
        }
    }

    private static void parent() {
        TicketForge plan = Plans.open(2);
        plan.addTask(1, 5, 0);
        plan.addTask(2, 5, 0);
        Check.same("parent(2)", plan.parent(2), 1);
        Check.same("parent(3)", plan.parent(3), 2);
        Check.refused("parent(0)", Plans.NO_SUCH, plan, () -> plan.parent(0));
        Check.refused("parent(4)", Plans.INDEX, plan, () -> plan.parent(4));
        for (int never : Plans.NEVER) {
            Check.refused("parent(never)", Plans.INDEX, plan, () -> plan.parent(never));
        }
    }

    private static void treeSize() {
        TicketForge plan = Plans.open(1);
        Check.same("a task alone", plan.treeSize(0), 1);
        plan.addTask(0, 5, 0);
        plan.addTask(-1, 5, 0);
        plan.addTask(1, 5, 0);
        plan.addTask(0, 5, 0);
        int[] sizes = {4, 2, 1, 1, 1};
        for (int i = 0; i < sizes.length; i++) {
            Check.same("treeSize(" + i + ")", plan.treeSize(i), sizes[i]);
        }
        TicketForge chain = Plans.open(1);
        for (int i = 0; i < 15; i++) {
            chain.addTask(i, 5, 0);
        }
        for (int i = 0; i < 16; i++) {
            Check.same("treeSize of a chain", chain.treeSize(i), 16 - i);
        }
        Check.refused("treeSize(5)", Plans.INDEX, plan, () -> plan.treeSize(5));
        for (int never : Plans.NEVER) {
            Check.refused("treeSize(never)", Plans.INDEX, plan, () -> plan.treeSize(never));
        }
    }

    private static void canBegin() {
        TicketForge plan = Plans.open(2);
        plan.block(0, 1);
        Check.same("an open one", plan.canBegin(0), true);
        Check.same("a blocked one", plan.canBegin(1), false);
        plan.begin(0);
        Check.same("one in work", plan.canBegin(0), false);
        plan.propose(0);
        Check.same("one in review", plan.canBegin(0), false);
        plan.merge(0);
        Check.same("one that is done", plan.canBegin(0), false);
        Check.same("blocked by one that is done", plan.canBegin(1), true);
        plan.reopen(0);
        Check.same("blocked by one reopened", plan.canBegin(1), false);
        Check.refused("canBegin(2)", Plans.INDEX, plan, () -> plan.canBegin(2));
        for (int never : Plans.NEVER) {
            Check.refused("canBegin(never)", Plans.INDEX, plan, () -> plan.canBegin(never));
        }
    }

    private static void tasks() {
        TicketForge plan = new TicketForge();
        for (int i = 0; i < 16; i++) {
            Check.same("tasks()", plan.tasks(), i);
            plan.addTask(i - 1, 5, 0);
        }
        Check.same("tasks()", plan.tasks(), 16);
    }
}
