import java.util.function.Consumer;
import java.util.function.Supplier;

/** Counts what is not as due, prints it, and ends a test with exit code 1 if there was any. */
final class Expect {
    static final Class<IndexOutOfBoundsException> INDEX = IndexOutOfBoundsException.class;
    static final Class<IllegalArgumentException> ARGUMENT = IllegalArgumentException.class;
    static final Class<IllegalStateException> STATE = IllegalStateException.class;

    private static int wrong = 0;
    private static int asked = 0;
    private static String subject = "";

    interface Call {
        Object answer();
    }

    /** What the questions that follow are about; it is printed ahead of what is wrong. */
    static void about(String what) {
        subject = what.isEmpty() ? "" : what + "\n    ";
    }

    static int asked() {
        return asked;
    }

    static void is(String what, Object got, Object want) {
        asked++;
        if (!want.equals(got)) {
            wrong++;
            System.out.println(subject + what + ": got " + got + ", due is " + want);
        }
    }

    static void fails(String what, Class<? extends RuntimeException> want, Call call) {
        is(what, told(call), want.getSimpleName());
    }

    /** The call is not refused. */
    static void passes(String what, Call call) {
        String told = told(call);
        is(what + " is taken (" + told + ")", told.contains("Exception"), false);
    }

    /** What a call answers, or the name of what it throws by a throw of its own. */
    static String told(Call call) {
        try {
            return String.valueOf(call.answer());
        } catch (RuntimeException thrown) {
            String name = thrown.getClass().getSimpleName();
            return isThrownByTheLibrary(thrown) ? name + " of the library" : name;
        }
    }

    private static boolean isThrownByTheLibrary(RuntimeException thrown) {
        StackTraceElement[] trace = thrown.getStackTrace();
        return trace.length == 0 || trace[0].getClassName().matches("(java|jdk)\\..*");
    }

    /**
     * The call throws as due, and an object on which it was tried goes on just like one on which
     * it was not: all that it tells, and what comes of further calls.
     */
    static void changesNothing(String what, Class<? extends RuntimeException> want,
            Consumer<NotaryKiosk> made, Consumer<NotaryKiosk> refused) {
        Supplier<NotaryKiosk> twin = () -> Made.by(made);
        Supplier<NotaryKiosk> tried = () -> {
            NotaryKiosk x = Made.by(made);
            tellOfCall(x, refused);
            return x;
        };
        is(what, tellOfCall(twin.get(), refused), want.getSimpleName());
        is(what + ": then all there is", Sight.of(tried), Sight.of(twin));
        is(what + ": then what comes of more calls", Sight.ofMoreCalls(tried.get()), Sight.ofMoreCalls(twin.get()));
    }

    private static String tellOfCall(NotaryKiosk x, Consumer<NotaryKiosk> call) {
        return told(() -> {
            call.accept(x);
            return "nothing thrown";
        });
    }

    static void end(String test) {
        System.out.println(test + ": " + asked + " asked, " + wrong + " wrong");
        if (wrong != 0 || asked == 0) {
            System.exit(1);
        }
    }

    private Expect() {
    }
}
