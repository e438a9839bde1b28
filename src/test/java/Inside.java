import java.lang.reflect.Field;
import java.util.List;

/**
 * Sets what is inside of a plan to what no run of calls brings about. A few sentences of the document cannot be seen
 * otherwise: a plan never ceases to be settled, and lock leaves no noted entry in its week.
 */
final class Inside {
    private Inside() {
    }

    static void lockWithoutDroppingEntries(TicketForge plan, int week) {
        set(plan, "lockedWeeks", 1 << week);
    }

    static void setGreatestCap(TicketForge plan, int cap) {
        set(plan, "greatestCap", cap);
    }

    static void addToTotal(TicketForge plan, int invoice, int more) {
        set(invoice(plan, invoice), "total", plan.total(invoice) + more);
    }

    static void addToCredited(TicketForge plan, int invoice, int more) {
        set(invoice(plan, invoice), "credited", plan.credited(invoice) + more);
    }

    private static Object invoice(TicketForge plan, int invoice) {
        try {
            return ((List<?>) field(plan, "invoiceList").get(plan)).get(invoice);
        } catch (ReflectiveOperationException e) {
            throw new IllegalStateException(e);
        }
    }

    private static void set(Object holder, String name, int value) {
        try {
            field(holder, name).setInt(holder, value);
        } catch (ReflectiveOperationException e) {
            throw new IllegalStateException(e);
        }
    }

    private static Field field(Object holder, String name) throws NoSuchFieldException {
        Field found = holder.getClass().getDeclaredField(name);
        found.setAccessible(true);
        return found;
    }
}
