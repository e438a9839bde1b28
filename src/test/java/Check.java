import java.util.Objects;

/** Counts what the tests check, and ends a test class with exit code 1 if something was wrong. */
final class Check {
    private static int checks = 0;
    private static int wrong = 0;
    private static String test = "";

    private Check() {
    }

    /** What stands ahead of each fault that is printed from now on. */
    static void within(String name) {
        test = name;
    }

    static int checks() {
        return checks;
    }

    static void same(String what, Object got, Object due) {
        checks++;
        if (!Objects.equals(got, due)) {
            wrong++;
            System.out.println(test + what + " answered " + got + ", due is " + due);
        }
    }

    /** The call throws exactly this exception, by a throw of TicketForge itself, and changes nothing. */
    static void refused(String what, Class<? extends RuntimeException> due, TicketForge plan, Runnable call) {
        String before = Snapshot.of(plan);
        same(what, thrownBy(call), due.getName());
        same("what stands after " + what, Snapshot.of(plan), before);
    }

    /** The name of the exception that the call throws, or "nothing". */
    static String thrownBy(Runnable call) {
        try {
            call.run();
            return "nothing";
        } catch (RuntimeException e) {
            return isOwn(e) ? e.getClass().getName() : e + " of the machine or the library";
        }
    }

    /** Whether a throw statement of TicketForge made it, not the machine and not a method of the library. */
    static boolean isOwn(RuntimeException e) {
        StackTraceElement[] trace = e.getStackTrace();
        boolean inProgram = trace.length > 0 && trace[0].getClassName().startsWith("TicketForge");
        boolean ofDivision = e instanceof ArithmeticException && "/ by zero".equals(e.getMessage());
        return inProgram && !ofDivision;
    }

    static void finish(String name) {
        System.out.println(name + ": " + checks + " checks, " + wrong + " wrong");
        if (wrong != 0 || checks == 0) {
            System.exit(1);
        }
    }
}
