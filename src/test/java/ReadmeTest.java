import java.io.IOException;
import java.lang.reflect.Method;
import java.lang.reflect.Modifier;
import java.nio.file.Files;
import java.nio.file.Path;
import java.util.List;
import java.util.stream.Collectors;
import java.util.stream.Stream;

/** README.md: its example answers what it says, and it names every call of the face and every test. */
public final class ReadmeTest {

    private static final Path README = Path.of("README.md");
    private static final Path TESTS = Path.of("src/test/java");

    public static void main(String[] args) throws IOException {
        exampleAnswersWhatItSays();
        exampleIsThatOfTheReadme();
        everyCallIsNamed();
        everyTestIsNamed();
        Expect.end("ReadmeTest");
    }

    private static void exampleAnswersWhatItSays() {
        NotaryKiosk chamber = new NotaryKiosk();
        chamber.join(0, 1);                              // the kiosks 0 and 1
        chamber.draft(3, 1000, 5000, 24, 1);             // kinds 0 and 1, 1000 an act, 5000 in all, 24 hours, depth 1
        int power = chamber.grant(0, 1, 2);              // 0: at the kiosk 0 the person 1 grants it to the person 2
        int came = chamber.pass(1);                      // 1: an hour later its news is in the mail of the kiosk 1
        int read = chamber.read(1);                      // 1: and the kiosk 1 reads it
        chamber.prepare(0, 1);                           // the next acts: by the notary, of the kind 1
        int reason = chamber.against(1, 2, power, 500);  // 0: there is no reason against this act
        int record = chamber.act(1, 2, power, 500);      // 0: the first record of the kiosk 1
        int revoked = chamber.revoke(0, 1, power);       // 2: a piece of news, which has not come to the kiosk 1
        boolean stands = chamber.stands(1, record);      // true
        int copy = chamber.copy(1, record, record, 8);   // 0: a copy that leaves out the part 3, the amount
        int before = chamber.tamper(1, record, 900);     // 500: the amount that the record told before
        int broken = chamber.broken(1);                  // 0: the seal of the record 0 comes out otherwise now
        int faulty = chamber.brokenCopy(copy);           // -1: the copy can be checked all the same, and is whole
        boolean same = chamber.isTrue(copy);             // true: it does not tell the amount

        Expect.is("promise 7: power", power, 0);
        Expect.is("promise 4: came", came, 1);
        Expect.is("promise 5: read", read, 1);
        Expect.is("promise 30: reason", reason, 0);
        Expect.is("promise 12: record", record, 0);
        Expect.is("promise 9: revoked", revoked, 2);
        Expect.is("promise 21: which has not come to the kiosk 1", chamber.came(1, revoked), -1);
        Expect.is("promise 32: stands", stands, true);
        Expect.is("promise 14: copy", copy, 0);
        Expect.is("promise 40: it does not tell the amount", chamber.copied(copy, 0, 3), -1);
        Expect.is("promise 13: before", before, 500);
        Expect.is("promise 38: broken", broken, 0);
        Expect.is("promise 41: faulty", faulty, -1);
        Expect.is("promise 42: same", same, true);
    }

    /** So that what is asked above is what the reader of the README sees. */
    private static void exampleIsThatOfTheReadme() throws IOException {
        String readme = Files.readString(README);
        String example = readme.replaceAll("(?s).*```java\n(.*?)```.*", "$1");
        String indented = example.lines().map(line -> "        " + line + "\n").collect(Collectors.joining());
        Expect.is("the README has an example", example.lines().count() > 10 && !example.equals(readme), true);
        String test = Files.readString(TESTS.resolve("ReadmeTest.java"));
        Expect.is("the README's example is the one above", test.contains(indented), true);
    }

    private static void everyCallIsNamed() throws IOException {
        String readme = Files.readString(README);
        for (Method method : NotaryKiosk.class.getDeclaredMethods()) {
            if (Modifier.isPublic(method.getModifiers())) {
                String name = "`" + method.getName() + "`";
                Expect.is("the README names " + name, readme.contains(name), true);
            }
        }
    }

    private static void everyTestIsNamed() throws IOException {
        String readme = Files.readString(README);
        for (String name : tests()) {
            Expect.is("the README names " + name, readme.contains("| `" + name + "` |"), true);
        }
    }

    private static List<String> tests() throws IOException {
        try (Stream<Path> files = Files.list(TESTS)) {
            return files.map(file -> file.getFileName().toString()).filter(name -> name.endsWith("Test.java"))
                    .map(name -> name.substring(0, name.indexOf('.'))).sorted().collect(Collectors.toList());
        }
    }

    private ReadmeTest() {
    }
}
