import java.util.function.Consumer;

/** Counts what is not as due, prints it, and ends a test with exit code 1 if there was any. */
final class Expect {
    static final Class<IndexOutOfBoundsException> INDEX = IndexOutOfBoundsException.class;
    static final Class<IllegalArgumentException> ARGUMENT = IllegalArgumentException.class;
    static final Class<IllegalStateException> STATE = IllegalStateException.class;

    private static int wrong = 0;
    private static int asked = 0;

    interface Call {
        Object answer();
    }

    static void is(String what, Object got, Object want) {
        asked++;
        if (!want.equals(got)) {
            wrong++;
            System.out.println(what + ": got " + got + ", due is " + want);
        }
    }

    static void fails(String what, Class<? extends RuntimeException> want, Call call) {
        is(what, told(call), want.getSimpleName());
    }

    /** What a call answers, or the name of what it throws by a throw of its own. */
    static String told(Call call) {
        try {
            return String.valueOf(call.answer());
        } catch (RuntimeException thrown) {
            String name = thrown.getClass().getSimpleName();
            return isThrownByTheLibrary(thrown) ? name + " of the library" : name;
        }
    }

    private static boolean isThrownByTheLibrary(RuntimeException thrown) {
        StackTraceElement[] trace = thrown.getStackTrace();
        return trace.length == 0 || trace[0].getClassName().matches("(java|jdk)\\..*");
    }

    /**
     * The call throws as due, and an object on which it was tried goes on just like one on which
     * it was not: all that it tells, and what comes of further calls.
     */
    static void changesNothing(String what, Class<? extends RuntimeException> want,
            Consumer<NotaryKiosk> made, Consumer<NotaryKiosk> refused) {
        NotaryKiosk tried = new NotaryKiosk();
        NotaryKiosk twin = new NotaryKiosk();
        made.accept(tried);
        made.accept(twin);
        fails(what, want, () -> {
            refused.accept(tried);
            return "nothing thrown";
        });
        is(what + ": then all there is", Sight.of(tried), Sight.of(twin));
        is(what + ": then what comes of more calls", Sight.ofMoreCalls(tried), Sight.ofMoreCalls(twin));
    }

    static void end(String test) {
        System.out.println(test + ": " + asked + " asked, " + wrong + " wrong");
        if (wrong != 0 || asked == 0) {
            System.exit(1);
        }
    }

    private Expect() {
    }
}
