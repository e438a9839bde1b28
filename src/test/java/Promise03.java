/** Promise 3: block. */
final class Promise03 {
    private Promise03() {
    }

    /** Each of these tasks blocks the next one. */
    private static TicketForge row(int tasks) {
        TicketForge plan = Plans.open(tasks);
        for (int i = 0; i + 1 < tasks; i++) {
            plan.block(i, i + 1);
        }
        return plan;
    }

    /** 16 tasks and this many blocks, of at most 24: the tasks 0 to 11 block 12 first, and then 13. */
    private static TicketForge blocks(int count) {
        TicketForge plan = Plans.open(16);
        for (int i = 0; i < count; i++) {
            plan.block(i % 12, 12 + i / 12);
        }
        return plan;
    }

    static void theFirstBlockIsOne() {
        Check.same("block(0, 1)", Plans.open(2).block(0, 1), 1);
        Check.same("block(1, 0)", Plans.open(2).block(1, 0), 1);
    }

    static void fifteenTasksBlockTheSame() {
        TicketForge first = Plans.open(16);
        TicketForge last = Plans.open(16);
        for (int i = 1; i < 16; i++) {
            Check.same("block(" + i + ", 0)", first.block(i, 0), i);
            Check.same("block(.., 15)", last.block(15 - i, 15), i);
        }
    }

    static void theSameBlocksFifteenTasks() {
        TicketForge plan = Plans.open(16);
        for (int i = 1; i < 16; i++) {
            Check.same("block(0, " + i + ")", plan.block(0, i), 1);
        }
    }

    static void onlyDirectBlocksAreCounted() {
        TicketForge plan = row(3);
        Check.same("block(3, 2)", Plans.open(4).block(3, 2), 1);
        Check.same("block(0, 2), behind 0, 1, 2", plan.block(0, 2), 2);
    }

    static void blocksByTasksThatAreDoneAreCounted() {
        TicketForge plan = Plans.open(3);
        plan.block(0, 2);
        Plans.beginAndEnd(plan, 0);
        Check.same("block(1, 2)", plan.block(1, 2), 2);
    }

    static void noSuchTaskIsRefused() {
        Edge.noSuchTask((plan, number) -> plan.block(number, 0));
    }

    static void noSuchOtherIsRefused() {
        Edge.noSuchTask((plan, number) -> plan.block(0, number));
    }

    static void noSuchBothAreRefused() {
        Edge.noSuchTask((plan, number) -> plan.block(number, number));
    }

    static void theSameTaskIsRefused() {
        Edge.refused("block(0, 0)", Plans.ARGUMENT, () -> Plans.open(1), plan -> plan.block(0, 0));
        Edge.refused("block(2, 2)", Plans.ARGUMENT, () -> row(3), plan -> plan.block(2, 2));
        Edge.refused("block(15, 15)", Plans.ARGUMENT, () -> Plans.open(16), plan -> plan.block(15, 15));
    }

    static void theSameBlockAgainIsRefused() {
        Edge.refused("block(0, 1)", Plans.STATE, () -> row(2), plan -> plan.block(0, 1));
        Edge.refused("block(14, 15)", Plans.STATE, () -> row(16), plan -> plan.block(14, 15));
    }

    static void theSameBlockAgainIsRefusedWhenTheBlockerIsDone() {
        Edge.refused("block(0, 1)", Plans.STATE, Promise03::rowOfTwoTheFirstDone, plan -> plan.block(0, 1));
    }

    private static TicketForge rowOfTwoTheFirstDone() {
        TicketForge plan = row(2);
        Plans.beginAndEnd(plan, 0);
        return plan;
    }

    static void aBlockByOthersAloneIsTaken() {
        Check.same("block(0, 2), by 1 already", row(3).block(0, 2), 2);
        Check.same("block(0, 15), by 14 others already", row(16).block(0, 15), 2);
    }

    static void the20thBlockIsTaken() {
        TicketForge plan = blocks(19);
        Check.same("the 20th block", plan.block(14, 15), 1);
        Check.same("it binds", plan.canBegin(15), false);
    }

    static void a21stBlockIsRefused() {
        Edge.refused("a 21st block", Plans.STATE, () -> blocks(20), plan -> plan.block(14, 15));
        Edge.refused("a 21st block, in a full plan", Plans.STATE, Plans::full, plan -> plan.block(12, 13));
    }

    static void aRefusedBlockIsNotOneOfThe20() {
        TicketForge plan = blocks(19);
        for (int i = 0; i < 5; i++) {
            Check.thrownBy(() -> plan.block(0, 0));
            Check.thrownBy(() -> plan.block(0, 12));
            Check.thrownBy(() -> plan.block(12, 0));
            Check.thrownBy(() -> plan.block(0, 16));
        }
        Check.same("the 20th block", plan.block(14, 15), 1);
    }

    static void aBlockByOneThatIsDoneIsOneOfThe20() {
        Edge.refused("a 21st block", Plans.STATE, Promise03::twentyBlocksFirstDone, plan -> plan.block(14, 15));
    }

    private static TicketForge twentyBlocksFirstDone() {
        TicketForge plan = blocks(20);
        for (int i = 0; i < 14; i++) {
            Plans.beginAndEnd(plan, i);
        }
        return plan;
    }

    static void aRingOf2IsRefused() {
        Edge.refused("block(1, 0)", Plans.UNSUPPORTED, () -> row(2), plan -> plan.block(1, 0));
    }

    static void aRingOf3IsRefused() {
        Edge.refused("block(2, 0)", Plans.UNSUPPORTED, () -> row(3), plan -> plan.block(2, 0));
    }

    static void aRingOf16IsRefused() {
        Edge.refused("block(15, 0)", Plans.UNSUPPORTED, () -> row(16), plan -> plan.block(15, 0));
        Edge.refused("block(0, 15)", Plans.UNSUPPORTED, Promise03::rowDown, plan -> plan.block(0, 15));
    }

    /** Each of 16 tasks blocks the one ahead of it. */
    private static TicketForge rowDown() {
        TicketForge plan = Plans.open(16);
        for (int i = 15; i > 0; i--) {
            plan.block(i, i - 1);
        }
        return plan;
    }

    static void aRingAmongManyIsRefused() {
        Edge.refused("block(3, 2)", Plans.UNSUPPORTED, Promise03::twoWays, plan -> plan.block(3, 2));
        Edge.refused("block(4, 2)", Plans.UNSUPPORTED, Promise03::twoWays, plan -> plan.block(4, 2));
        Check.same("block(1, 0), the starts of two ways", twoWays().block(1, 0), 2);
        Check.same("block(3, 4)", twoWays().block(3, 4), 3);
    }

    /** 0 and 1 block 4; 2 blocks 3 and 0, and by this one 4. */
    private static TicketForge twoWays() {
        TicketForge plan = Plans.open(5);
        plan.block(0, 4);
        plan.block(1, 4);
        plan.block(2, 3);
        plan.block(2, 0);
        return plan;
    }

    static void aRingOfTasksThatAreDoneIsRefused() {
        Edge.refused("block(1, 0)", Plans.UNSUPPORTED, Promise03::rowOfTwoDone, plan -> plan.block(1, 0));
    }

    private static TicketForge rowOfTwoDone() {
        TicketForge plan = rowOfTwoTheFirstDone();
        Plans.beginAndEnd(plan, 1);
        return plan;
    }

    static void parentsAndChildrenMayBlockEachOther() {
        Check.same("a parent blocks", Plans.chain(2).block(0, 1), 1);
        Check.same("a child blocks", Plans.chain(2).block(1, 0), 1);
    }

    static void tasksInAnyStateMayBlockAndBeBlocked() {
        char[] states = {'o', 'w', 'r', 'd'};
        for (char state : states) {
            TicketForge plan = Plans.taskIn(state);
            plan.addTask(-1, 5, 0);
            plan.addTask(-1, 5, 0);
            Check.same("blocks one in " + state, plan.block(1, 0), 1);
            Check.same("is blocked by one in " + state, plan.block(0, 2), 1);
            Check.same("its state", plan.state(0), state);
        }
    }

    static void noSuchTaskComesAheadOfTheSame() {
        Edge.refused("block(2, 2) of 2", Plans.INDEX, () -> Plans.open(2), plan -> plan.block(2, 2));
        Edge.refused("block(-1, -1)", Plans.INDEX, () -> Plans.open(2), plan -> plan.block(-1, -1));
    }

    static void noSuchTaskComesAheadOf20Blocks() {
        Edge.refused("block(16, 0)", Plans.INDEX, () -> blocks(20), plan -> plan.block(16, 0));
        Edge.refused("block(0, -1)", Plans.INDEX, () -> blocks(20), plan -> plan.block(0, -1));
    }

    static void theSameComesAheadOf20Blocks() {
        Edge.refused("block(3, 3)", Plans.ARGUMENT, () -> blocks(20), plan -> plan.block(3, 3));
    }

    static void twentyBlocksComeAheadOfARing() {
        Edge.refused("block(12, 0)", Plans.STATE, () -> blocks(20), plan -> plan.block(12, 0));
        Edge.refused("block(12, 0), one less", Plans.UNSUPPORTED, () -> blocks(19), plan -> plan.block(12, 0));
    }
}
