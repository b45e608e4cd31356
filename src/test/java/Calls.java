import java.lang.reflect.InvocationTargetException;
import java.lang.reflect.Method;
import java.util.ArrayList;
import java.util.List;

/**
 * Every call of the face, with arguments that are taken in the object that Made.someOfAll makes,
 * and with each of these out of bounds.
 */
final class Calls {
    /** An argument is a thing of which there are so many there, or is within bounds; behind = stands what is taken. */
    private static final String[] ROWS = {
        "join kiosk=3 kiosk=4", "cut kiosk=0 kiosk=1", "pass 1..50=3", "read kiosk=1",
        "draft 1..63=7 1..10000=70 1..100000=70 0..400=7 0..3=1", "grant kiosk=0 person=1 person=2",
        "passOn kiosk=0 power=0 person=4", "revoke kiosk=0 person=1 power=0", "depute kiosk=3 0..100=5 0..100=5",
        "prepare 0..1=1 0..5=2", "act kiosk=1 person=2 power=0 1..10000=5", "tamper kiosk=1 record=0 1..10000=5",
        "copy kiosk=1 record=0 record=2 0..63=3", "forge copy=1 place=0 part=3 0..10000=5",
        "hour", "news", "powers", "records kiosk=1", "areJoined kiosk=0 kiosk=1", "came kiosk=0 piece=0",
        "cameByLinks kiosk=0 piece=0", "isRead kiosk=0 piece=0", "mail kiosk=0",
        "source power=0", "holder power=0", "isGood kiosk=0 power=0", "done kiosk=0 power=0", "beyond power=0",
        "against kiosk=1 person=2 power=0 1..10000=5", "choices kiosk=1 person=2 1..10000=5",
        "stands kiosk=1 record=0", "fault kiosk=1 record=0", "standing", "pieceOf kiosk=1 record=0",
        "part kiosk=1 record=0 part=0", "seal kiosk=1 record=0", "broken kiosk=1",
        "size copy=1", "copied copy=1 place=0 part=3", "brokenCopy copy=1", "isTrue copy=1",
    };
    private static final String[] THINGS = {"kiosk", "person", "power", "piece", "record", "copy", "part", "place"};
    private static final int[] COUNTS = {6, 10, 2, 7, 3, 2, 6, 2};

    private final Method method;
    private final int arguments;
    private final boolean[] isThing;
    private final int[] least;
    private final int[] most;
    private final int[] taken;
    private final boolean takesRecord;

    static List<String> names() {
        List<String> names = new ArrayList<>();
        for (String row : ROWS) {
            names.add(row.split(" ")[0]);
        }
        return names;
    }

    static Calls of(String name) {
        for (String row : ROWS) {
            if (row.split(" ")[0].equals(name)) {
                return new Calls(row);
            }
        }
        throw new IllegalArgumentException("no such call: " + name);
    }

    private Calls(String row) {
        String[] words = row.split(" ");
        method = methodOf(words[0]);
        takesRecord = row.contains("record=");
        arguments = words.length - 1;
        isThing = new boolean[arguments];
        least = new int[arguments];
        most = new int[arguments];
        taken = new int[arguments];
        for (int at = 0; at < arguments; at++) {
            setBounds(at, words[at + 1].split("="));
        }
    }

    private static Method methodOf(String name) {
        for (Method one : NotaryKiosk.class.getMethods()) {
            if (one.getName().equals(name) && one.getDeclaringClass() == NotaryKiosk.class) {
                return one;
            }
        }
        throw new IllegalArgumentException("no such method: " + name);
    }

    private void setBounds(int at, String[] told) {
        taken[at] = Integer.parseInt(told[1]);
        for (int thing = 0; thing < THINGS.length; thing++) {
            if (THINGS[thing].equals(told[0])) {
                isThing[at] = true;
                most[at] = COUNTS[thing] - 1;
            }
        }
        if (!isThing[at]) {
            String[] bounds = told[0].split("\\.\\.");
            least[at] = Integer.parseInt(bounds[0]);
            most[at] = Integer.parseInt(bounds[1]);
        }
    }

    /** Each argument that is a thing, when there is no such one; the first and the last one are not refused so. */
    static void noSuch(String name) {
        Calls call = of(name);
        for (int at = 0; at < call.arguments; at++) {
            if (call.isThing[at]) {
                call.isRefusedOutside(at, Expect.INDEX);
            }
            // Of the kiosks, only that one has records.
            if (call.isThing[at] && (at > 0 || !call.takesRecord)) {
                call.isNotRefusedAt(at, call.least[at], Expect.INDEX);
                call.isNotRefusedAt(at, call.most[at], Expect.INDEX);
            }
        }
    }

    /** Each argument that has bounds, outside of them; at its bounds it is not refused so. */
    static void outOfRange(String name) {
        Calls call = of(name);
        for (int at = 0; at < call.arguments; at++) {
            if (!call.isThing[at]) {
                call.isRefusedOutside(at, Expect.ARGUMENT);
                call.isNotRefusedAt(at, call.least[at], Expect.ARGUMENT);
                call.isNotRefusedAt(at, call.most[at], Expect.ARGUMENT);
            }
        }
    }

    /** Only the argument with this number, counted from 0. */
    static void outOfRange(String name, int at) {
        Calls call = of(name);
        call.isRefusedOutside(at, Expect.ARGUMENT);
        call.isNotRefusedAt(at, call.least[at], Expect.ARGUMENT);
        call.isNotRefusedAt(at, call.most[at], Expect.ARGUMENT);
    }

    /** A thing that is not there, and a number out of its bounds: the thing is told of. */
    static void noSuchAheadOfOutOfRange(String name) {
        Calls call = of(name);
        for (int at = 0; at < call.arguments; at++) {
            for (int other = 0; other < call.arguments; other++) {
                if (call.isThing[at] && !call.isThing[other]) {
                    call.isRefusedWith(at, call.most[at] + 1, other, call.least[other] - 1);
                    call.isRefusedWith(at, -1, other, call.most[other] + 1);
                }
            }
        }
    }

    private void isRefusedWith(int at, int value, int other, int otherValue) {
        int[] told = with(at, value);
        told[other] = otherValue;
        Expect.changesNothing(text(told), Expect.INDEX, Made::someOfAll, y -> answer(y, told));
    }

    private void isRefusedOutside(int at, Class<? extends RuntimeException> want) {
        for (int value : new int[] {least[at] - 1, most[at] + 1, Integer.MIN_VALUE, Integer.MAX_VALUE}) {
            int[] told = with(at, value);
            Expect.changesNothing(text(told), want, Made::someOfAll, y -> answer(y, told));
        }
    }

    private void isNotRefusedAt(int at, int value, Class<? extends RuntimeException> by) {
        int[] told = with(at, value);
        String answer = Expect.told(() -> answer(Made.by(Made::someOfAll), told));
        Expect.is(text(told) + " throws it", answer.startsWith(by.getSimpleName()), false);
    }

    private int[] with(int at, int value) {
        int[] told = taken.clone();
        told[at] = value;
        return told;
    }

    private String text(int[] told) {
        StringBuilder text = new StringBuilder(method.getName());
        for (int value : told) {
            text.append(' ').append(value);
        }
        return text.toString();
    }

    /** The call as it is taken. */
    Object answer(NotaryKiosk x) {
        return answer(x, taken);
    }

    private Object answer(NotaryKiosk x, int[] told) {
        Object[] values = new Object[told.length];
        for (int at = 0; at < told.length; at++) {
            values[at] = told[at];
        }
        try {
            Object answer = method.invoke(x, values);
            return answer == null ? "nothing" : answer;
        } catch (InvocationTargetException thrown) {
            if (thrown.getCause() instanceof RuntimeException) {
                throw (RuntimeException) thrown.getCause();
            }
            throw new UnsupportedOperationException(thrown.getCause());
        } catch (IllegalAccessException hidden) {
            throw new UnsupportedOperationException(hidden);
        }
    }
}
