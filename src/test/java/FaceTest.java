import java.lang.reflect.Constructor;
import java.lang.reflect.Field;
import java.lang.reflect.Member;
import java.lang.reflect.Method;
import java.lang.reflect.Modifier;
import java.util.Set;
import java.util.TreeSet;

/** The public face is the one of the document, and nothing else of the class is seen from outside. */
final class FaceTest {
    private static final String[] FACE = {
        "int addTask(int,int,int) IndexOutOfBoundsException IllegalArgumentException IllegalStateException"
            + " UnsupportedOperationException",
        "int block(int,int) IndexOutOfBoundsException IllegalArgumentException IllegalStateException"
            + " UnsupportedOperationException",
        "int begin(int) IndexOutOfBoundsException IllegalStateException UnsupportedOperationException",
        "int propose(int) IndexOutOfBoundsException IllegalStateException",
        "int reject(int) IndexOutOfBoundsException IllegalStateException",
        "int merge(int) IndexOutOfBoundsException IllegalStateException UnsupportedOperationException",
        "int reopen(int) IndexOutOfBoundsException IllegalStateException UnsupportedOperationException",
        "char state(int) IndexOutOfBoundsException",
        "int parent(int) IndexOutOfBoundsException NoSuchElementException",
        "int treeSize(int) IndexOutOfBoundsException",
        "boolean canBegin(int) IndexOutOfBoundsException",
        "int tasks()",
        "int note(int,int,int,int) IndexOutOfBoundsException IllegalArgumentException"
            + " UnsupportedOperationException IllegalStateException",
        "int approve(int) NoSuchElementException IllegalStateException UnsupportedOperationException",
        "int lock(int) IllegalArgumentException IllegalStateException",
        "char entryState(int) NoSuchElementException",
        "int price(int) NoSuchElementException IllegalStateException",
        "int entries()",
        "int hours(int) IndexOutOfBoundsException",
        "int room(int) IndexOutOfBoundsException NoSuchElementException",
        "int setRate(int,int) IllegalArgumentException",
        "int setCap(int) IllegalArgumentException",
        "int setDiscount(int,int) IllegalArgumentException",
        "int invoice(int,int) IndexOutOfBoundsException IllegalArgumentException"
            + " UnsupportedOperationException IllegalStateException",
        "int invoices()",
        "int total(int) NoSuchElementException",
        "int totalByRules(int) NoSuchElementException",
        "int credited(int) NoSuchElementException",
        "int items(int) NoSuchElementException",
        "int invoiceOf(int) NoSuchElementException IllegalStateException",
        "int left(int) IndexOutOfBoundsException",
        "float pace(int) IllegalArgumentException",
        "int forecast(int,int) IndexOutOfBoundsException IllegalArgumentException ArithmeticException",
        "long due()",
        "double meanPrice() ArithmeticException",
        "boolean isSettled()",
    };

    private FaceTest() {
    }

    public static void main(String[] args) {
        Check.same("methods", methodsSeen(), new TreeSet<>(Set.of(FACE)));
        Check.same("constructors", TicketForge.class.getDeclaredConstructors().length, 1);
        for (Constructor<?> each : TicketForge.class.getDeclaredConstructors()) {
            Check.same("the constructor", each.toString(), "public TicketForge()");
        }
        for (Field each : TicketForge.class.getDeclaredFields()) {
            Check.same(each.getName() + " is private", Modifier.isPrivate(each.getModifiers()), true);
            Check.same(each.getName() + " is final, if static", isFixedIfStatic(each), true);
        }
        int modifiers = TicketForge.class.getModifiers();
        Check.same("public and final", Modifier.isPublic(modifiers) && Modifier.isFinal(modifiers), true);
        Check.finish("FaceTest");
    }

    private static Set<String> methodsSeen() {
        Set<String> seen = new TreeSet<>();
        Set<String> names = new TreeSet<>();
        for (Method each : TicketForge.class.getDeclaredMethods()) {
            if (!Modifier.isPrivate(each.getModifiers())) {
                seen.add(describe(each));
                names.add(each.getName());
            }
        }
        for (Method each : TicketForge.class.getDeclaredMethods()) {
            if (Modifier.isPrivate(each.getModifiers())) {
                Check.same(each.getName() + " bears a public name", names.contains(each.getName()), false);
            }
        }
        return seen;
    }

    private static String describe(Method method) {
        StringBuilder text = new StringBuilder();
        if (!Modifier.isPublic(method.getModifiers()) || Modifier.isStatic(method.getModifiers())) {
            text.append("not a public method of an object: ");
        }
        text.append(method.getReturnType()).append(' ').append(method.getName()).append('(');
        for (int i = 0; i < method.getParameterCount(); i++) {
            text.append(i == 0 ? "" : ",").append(method.getParameterTypes()[i]);
        }
        text.append(')');
        for (Class<?> each : method.getExceptionTypes()) {
            text.append(' ').append(each.getSimpleName());
        }
        return text.toString();
    }

    private static boolean isFixedIfStatic(Member member) {
        return !Modifier.isStatic(member.getModifiers()) || Modifier.isFinal(member.getModifiers());
    }
}
