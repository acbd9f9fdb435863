import java.util.Objects;
import java.util.function.Consumer;
import java.util.function.Supplier;

/** Counts checks and prints those that fail, under the promise that is being tested. */
final class Check {
    private static String part = "";
    private static int checks = 0;
    private static int wrong = 0;

    private Check() {
    }

    static void part(String name) {
        part = name;
    }

    static void due(String what, Object want, Object got) {
        checks++;
        if (!Objects.equals(want, got)) {
            wrong++;
            System.out.println(part + ": " + what + " answered " + got + ", due is " + want);
        }
    }

    /** The call throws just this exception, and leaves the desk as one that was never called. */
    static void refuses(
            String what,
            Class<? extends RuntimeException> want,
            Supplier<TenantPlacement> maker,
            Consumer<TenantPlacement> call) {
        TenantPlacement desk = maker.get();
        Object thrown = "nothing";
        try {
            call.accept(desk);
        } catch (RuntimeException e) {
            thrown = e.getClass();
        }
        due(what + " throws", want, thrown);
        due(what + " changes nothing", State.all(maker.get()), State.all(desk));
    }

    /** Each test runs, also when one before it ends with an exception. */
    static void each(Runnable... tests) {
        for (Runnable test : tests) {
            try {
                test.run();
            } catch (RuntimeException e) {
                due("the test throws", "nothing", e.toString());
            }
        }
    }

    static void end() {
        System.out.println(checks + " checks, " + wrong + " wrong");
        if (wrong != 0 || checks == 0) {
            System.exit(1);
        }
    }
}
