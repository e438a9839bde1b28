/** Promise 8: reopen. */
final class Promise08 {
    private Promise08() {
    }

    /** A chain of tasks that are all done. */
    private static TicketForge doneChain(int tasks) {
        TicketForge plan = Plans.chain(tasks);
        for (int i = tasks - 1; i >= 0; i--) {
            Plans.beginAndEnd(plan, i);
        }
        return plan;
    }

    static void withoutEntriesNothingIsCredited() {
        Check.same("reopen(0)", Plans.taskIn('d').reopen(0), 0);
    }

    static void withoutBilledEntriesNothingIsCredited() {
        char[] states = {'n', 'a', 'x'};
        for (char state : states) {
            TicketForge plan = Plans.entryIn(state);
            Plans.end(plan, 0);
            Check.same("reopen(0), with one in " + state, plan.reopen(0), 0);
            Check.same("its state", plan.entryState(0), state);
        }
    }

    static void aBilledEntryIsCredited() {
        TicketForge plan = Plans.entryIn('b');
        Check.same("reopen(0)", plan.reopen(0), 250);
        Check.same("entryState(0)", plan.entryState(0), 'c');
    }

    static void aCreditedEntryIsNotCreditedAgain() {
        TicketForge plan = Plans.entryIn('c');
        Plans.end(plan, 0);
        Check.same("reopen(0)", plan.reopen(0), 0);
        Check.same("credited(0)", plan.credited(0), 250);
    }

    static void aPriceOf0IsCredited() {
        TicketForge plan = Plans.entryIn('a');
        plan.setRate(0, 0);
        Plans.end(plan, 0);
        plan.invoice(0, 0);
        Check.same("reopen(0)", plan.reopen(0), 0);
        Check.same("entryState(0)", plan.entryState(0), 'c');
    }

    static void thePricesWithTheDiscountAreCredited() {
        TicketForge plan = Plans.entryIn('a');
        plan.setRate(0, 33);
        plan.setDiscount(165, 50);
        Plans.end(plan, 0);
        plan.invoice(0, 0);
        plan.setRate(0, 200);
        plan.setDiscount(0, 0);
        Check.same("reopen(0), 165 less 50 percent", plan.reopen(0), 82);
    }

    static void sixtyEntriesOf20InvoicesAreCredited() {
        TicketForge plan = Plans.oneInWork();
        for (int i = 0; i < 60; i++) {
            Plans.work(plan, 0, i % 3, i / 3, 40);
        }
        for (int person = 0; person < 3; person++) {
            plan.setRate(person, 200);
        }
        Plans.end(plan, 0);
        for (int week = 0; week < 20; week++) {
            plan.invoice(0, week);
        }
        Check.same("reopen(0)", plan.reopen(0), 60 * 40 * 200);
        Check.same("credited(0)", plan.credited(0), 3 * 40 * 200);
        Check.same("credited(19)", plan.credited(19), 3 * 40 * 200);
        Check.same("due()", plan.due(), 0L);
    }

    static void onlyItsOwnEntriesAreCredited() {
        TicketForge plan = Plans.chain(3);
        for (int i = 0; i < 3; i++) {
            plan.begin(i);
            Plans.work(plan, i, 0, 0, 1 + i);
        }
        for (int i = 2; i >= 0; i--) {
            Plans.end(plan, i);
        }
        plan.invoice(0, 0);
        Check.same("reopen(0)", plan.reopen(0), 50);
        Check.same("of its child", plan.entryState(1), 'b');
        Check.same("reopen(1)", plan.reopen(1), 100);
        Check.same("of its parent", plan.entryState(0), 'c');
        Check.same("of its child", plan.entryState(2), 'b');
    }

    static void itIsInWorkThen() {
        TicketForge plan = Plans.taskIn('d');
        plan.reopen(0);
        Check.same("state(0)", plan.state(0), 'w');
        Check.same("propose(0)", plan.propose(0), 1);
    }

    static void noSuchTaskIsRefused() {
        Edge.noSuchTask((plan, number) -> plan.reopen(number));
    }

    static void aTaskThatIsNotDoneIsRefused() {
        Edge.refused("an open one", Plans.STATE, () -> Plans.taskIn('o'), plan -> plan.reopen(0));
        Edge.refused("one in work", Plans.STATE, () -> Plans.taskIn('w'), plan -> plan.reopen(0));
        Edge.refused("one in review", Plans.STATE, () -> Plans.taskIn('r'), plan -> plan.reopen(0));
        Edge.refused("one reopened", Plans.STATE, () -> Plans.entryIn('c'), plan -> plan.reopen(0));
    }

    static void aParentThatIsDoneIsRefused() {
        Edge.refused("reopen(1)", Plans.UNSUPPORTED, () -> doneChain(2), plan -> plan.reopen(1));
        Edge.refused("reopen(15)", Plans.UNSUPPORTED, () -> doneChain(16), plan -> plan.reopen(15));
        Edge.refused("with billed entries", Plans.UNSUPPORTED, Plans::full, plan -> plan.reopen(7));
    }

    static void aParentThatIsNotDoneIsNoHindrance() {
        TicketForge plan = doneChain(2);
        plan.reopen(0);
        Check.same("one in work", plan.reopen(1), 0);
        Plans.end(plan, 1);
        plan.propose(0);
        Check.same("one in review", plan.reopen(1), 0);
        TicketForge open = Plans.chain(2);
        Plans.beginAndEnd(open, 1);
        Check.same("one that is open", open.reopen(1), 0);
    }

    static void onlyItsOwnParentCounts() {
        Edge.refused("its parent is done alone", Plans.UNSUPPORTED, Promise08::rootReopened, plan -> plan.reopen(2));
    }

    private static TicketForge rootReopened() {
        TicketForge plan = doneChain(3);
        plan.reopen(0);
        return plan;
    }

    static void withoutAParentItIsTaken() {
        TicketForge plan = doneChain(2);
        Check.same("reopen(0), over a child that is done", plan.reopen(0), 0);
        Check.same("state(1)", plan.state(1), 'd');
    }

    static void whatItBlocksStaysAsItIs() {
        TicketForge plan = Plans.open(2);
        plan.block(0, 1);
        Plans.beginAndEnd(plan, 0);
        Plans.bring(plan, 1, 'd');
        plan.reopen(0);
        Check.same("state(1)", plan.state(1), 'd');
    }

    static void theStateComesAheadOfTheParent() {
        Edge.refused("not done, nor its parent", Plans.STATE, () -> Plans.chain(2), plan -> plan.reopen(1));
    }
}
