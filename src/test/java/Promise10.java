/** Promise 10: parent. */
final class Promise10 {
    private Promise10() {
    }

    static void theParentsOfAChainAreTold() {
        TicketForge plan = Plans.chain(16);
        for (int i = 1; i < 16; i++) {
            Check.same("parent(" + i + ")", plan.parent(i), i - 1);
        }
    }

    static void task0IsTheParentOf15() {
        TicketForge plan = Plans.open(1);
        for (int i = 1; i < 16; i++) {
            plan.addTask(0, 5, 0);
            Check.same("parent(" + i + ")", plan.parent(i), 0);
        }
    }

    static void aTaskWithoutAParentIsRefused() {
        Edge.refused("parent(0)", Plans.NO_SUCH, () -> Plans.chain(2), plan -> plan.parent(0));
        Edge.refused("parent(15)", Plans.NO_SUCH, () -> Plans.open(16), plan -> plan.parent(15));
    }

    static void noSuchTaskIsRefused() {
        Edge.noSuchTask((plan, number) -> plan.parent(number));
    }
}
