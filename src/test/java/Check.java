import java.util.Objects;
import java.util.function.Consumer;
import java.util.function.Supplier;

/** Counts checks and prints those that fail, under the promise that is being tested. */
final class Check {
    private static String part = "";
    private static int checks = 0;
    private static int wrong = 0;

    private Check() {
    }

    static void part(String name) {
        part = name;
    }

    static void due(String what, Object want, Object got) {
        checks++;
        if (!Objects.equals(want, got)) {
            wrong++;
            System.out.println(part + ": " + what + " answered " + got + ", due is " + want);
        }
    }

    /** The call on a fresh desk throws just this exception and changes nothing that can be seen. */
    static void refuses(
            String what,
            Class<? extends RuntimeException> want,
            Supplier<TenantPlacement> maker,
            Consumer<TenantPlacement> call) {
        TenantPlacement desk = maker.get();
        String before = State.of(desk);
        Object thrown = "nothing";
        try {
            call.accept(desk);
        } catch (RuntimeException e) {
            thrown = e.getClass();
        }
        due(what + " throws", want, thrown);
        due(what + " changes nothing", before, State.of(desk));
    }

    static void end() {
        System.out.println(checks + " checks, " + wrong + " wrong");
        if (wrong != 0 || checks == 0) {
            System.exit(1);
        }
    }
}
