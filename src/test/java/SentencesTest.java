import java.lang.reflect.InvocationTargetException;
import java.lang.reflect.Method;
import java.lang.reflect.Modifier;
import java.util.Arrays;
import java.util.Comparator;

/**
 * Runs the tests of the document's sentences, one by one: each is a method of one of the classes
 * below that begins with Document.says. A sentence without a test is a failure, too.
 */
public final class SentencesTest {
    private static final Class<?>[] TESTS = {
        TermsSentences.class, ChainsSentences.class, RefusalsSentences.class,
        KiosksSentences.class, PowersSentences.class, ActsSentences.class, CopiesSentences.class, SightsSentences.class,
    };

    public static void main(String[] args) throws Exception {
        for (Class<?> one : TESTS) {
            Method[] methods = one.getDeclaredMethods();
            Arrays.sort(methods, Comparator.comparing(Method::getName));
            for (Method method : methods) {
                if (isTest(method)) {
                    run(method);
                }
            }
        }
        Document.allAreTested();
        Expect.end("SentencesTest");
    }

    private static boolean isTest(Method method) {
        return !method.isSynthetic() && !Modifier.isPrivate(method.getModifiers()) && method.getParameterCount() == 0;
    }

    private static void run(Method test) throws IllegalAccessException {
        Document.beginTest();
        int asked = Expect.asked();
        try {
            test.invoke(null);
        } catch (InvocationTargetException thrown) {
            Expect.is(test.getName() + " ended by", thrown.getCause(), "its last line");
        }
        Expect.is(test.getName() + " asks something", Expect.asked() > asked + 1, true);
        Expect.is(test.getName() + " names what it asks for", bearsItsPlace(test.getName()), true);
    }

    /** promise4ToTheHour400 is a test of promise 4, termsPersonsAre0To9 one of the terms. */
    private static boolean bearsItsPlace(String name) {
        String told = Document.told();
        if (told == null) {
            return false;
        }
        String place = told.substring(0, told.indexOf(':')).replace(" ", "");
        return name.matches("(?i:" + place + ")[A-Z].*");
    }

    private SentencesTest() {
    }
}
