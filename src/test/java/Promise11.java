/** Promise 11: treeSize. */
final class Promise11 {
    private Promise11() {
    }

    static void aTaskAloneIs1() {
        Check.same("treeSize(0)", Plans.open(1).treeSize(0), 1);
        Check.same("treeSize(15) of 16 apart", Plans.open(16).treeSize(15), 1);
    }

    static void aChainOf16Is16() {
        TicketForge plan = Plans.chain(16);
        for (int i = 0; i < 16; i++) {
            Check.same("treeSize(" + i + ")", plan.treeSize(i), 16 - i);
        }
    }

    static void aTaskWith15ChildrenIs16() {
        TicketForge plan = Plans.open(1);
        for (int i = 1; i < 16; i++) {
            plan.addTask(0, 5, 0);
        }
        Check.same("treeSize(0)", plan.treeSize(0), 16);
        Check.same("treeSize(1)", plan.treeSize(1), 1);
    }

    static void anotherTreeIsNotCounted() {
        TicketForge plan = Plans.chain(2);
        plan.addTask(-1, 5, 0);
        plan.addTask(2, 5, 0);
        plan.addTask(2, 5, 0);
        Check.same("treeSize(0)", plan.treeSize(0), 2);
        Check.same("treeSize(2)", plan.treeSize(2), 3);
    }

    static void blocksAreNoParents() {
        TicketForge plan = Plans.open(2);
        plan.block(0, 1);
        Check.same("treeSize(0)", plan.treeSize(0), 1);
        Check.same("treeSize(1)", plan.treeSize(1), 1);
    }

    static void noSuchTaskIsRefused() {
        Edge.noSuchTask((plan, number) -> plan.treeSize(number));
    }
}
