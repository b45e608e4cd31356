import java.io.IOException;
import java.nio.file.Files;
import java.nio.file.Path;
import java.util.List;
import java.util.function.Consumer;

/** The sentences that hold for every call: what it throws, and for how many calls an object is good. */
final class RefusalsSentences {

    private static final String CHANGES_NOTHING = "A call that throws an exception changes nothing.";
    private static final String FIRST_NAMED = "If several exceptions apply, the one that is named first in the "
            + "throws clause is thrown.";
    private static final String NO_SUCH_ONE = "A method that takes a kiosk, a person, a power, a piece of news, a "
            + "record, a copy or a part (0 to 5) throws IndexOutOfBoundsException if there is no such one.";
    private static final String CALLS_512 = "An object is used for at most 512 calls after it has been made; what "
            + "later calls answer is free.";

    // ---- a call that throws changes nothing

    private static void index(Consumer<NotaryKiosk> call) {
        Expect.changesNothing("no such one", Expect.INDEX, Made::someOfAll, call);
    }

    private static void argument(Consumer<NotaryKiosk> call) {
        Expect.changesNothing("a wrong argument", Expect.ARGUMENT, Made::someOfAll, call);
    }

    private static void state(Consumer<NotaryKiosk> made, Consumer<NotaryKiosk> call) {
        Expect.changesNothing("not now", Expect.STATE, made, call);
    }

    static void termsRefusedJoinCutPassAndReadChangeNothing() {
        Document.says(Document.TERMS, CHANGES_NOTHING);
        index(y -> y.join(3, 6));
        argument(y -> y.join(3, 3));
        state(Made::someOfAll, y -> y.join(1, 0));
        index(y -> y.cut(1, -1));
        argument(y -> y.cut(1, 1));
        state(Made::someOfAll, y -> y.cut(0, 2));
        argument(y -> y.pass(51));
        state(y -> {
            Made.passTo(y, 360);
            Made.someOfAll(y);
        }, y -> y.pass(50));
        index(y -> y.read(6));
    }

    static void termsRefusedCallsOnPowersChangeNothing() {
        Document.says(Document.TERMS, CHANGES_NOTHING);
        argument(y -> y.draft(1, 1, 1, 1, 4));
        index(y -> y.grant(0, 1, 10));
        argument(y -> y.grant(0, 1, 1));
        state(Made.withPowers(40), y -> y.grant(0, 1, 2));
        state(Made.withNews(160), y -> y.grant(0, 1, 2));
        index(y -> y.passOn(0, 2, 4));
        argument(y -> y.passOn(0, 0, 2));
        state(Made::someOfAll, y -> y.passOn(4, 0, 3));
        state(Made.withPowers(40), y -> y.passOn(0, 0, 3));
        state(Made.withNews(160), y -> y.passOn(0, 0, 3));
        index(y -> y.revoke(0, 1, 2));
        argument(y -> y.revoke(0, 3, 0));
        state(Made::someOfAll, y -> y.revoke(0, 2, 1));
        state(Made.withNews(160), y -> y.revoke(0, 1, 0));
        index(y -> y.depute(6, 0, 0));
        argument(y -> y.depute(3, 0, 101));
        state(Made::someOfAll, y -> y.depute(1, 8, 50));
        state(Made.withNews(160), y -> y.depute(1, 0, 0));
    }

    static void termsRefusedActsAndCopiesChangeNothing() {
        Document.says(Document.TERMS, CHANGES_NOTHING);
        argument(y -> y.prepare(1, 6));
        argument(y -> y.prepare(2, 3));
        index(y -> y.act(1, 2, 2, 5));
        argument(y -> y.act(1, 2, 0, 0));
        state(Made::someOfAll, y -> y.act(1, 4, 0, 5));
        state(Made.withNews(160), y -> y.act(0, 2, 0, 1));
        index(y -> y.tamper(1, 3, 5));
        argument(y -> y.tamper(1, 0, 10001));
        index(y -> y.copy(1, 0, 3, 0));
        argument(y -> y.copy(1, 1, 0, 0));
        argument(y -> y.copy(1, 0, 1, 64));
        state(Made.withCopies(12), y -> y.copy(3, 0, 0, 0));
        index(y -> y.forge(0, 2, 0, 5));
        argument(y -> y.forge(0, 1, 0, 10001));
        state(Made::someOfAll, y -> y.forge(0, 1, 3, 5));
    }

    /** Not even a call that throws in every way there is. */
    static void termsManyRefusedCallsChangeNothing() {
        Document.says(Document.TERMS, CHANGES_NOTHING);
        Consumer<NotaryKiosk> refused = y -> {
            for (int times = 0; times < 5; times++) {
                Expect.told(() -> y.grant(0, 1, 1));
                Expect.told(() -> y.passOn(0, 1, 4));
                Expect.told(() -> y.revoke(0, 2, 1));
                Expect.told(() -> y.depute(1, 0, 100));
                Expect.told(() -> y.act(1, 2, 0, 101));
                Expect.told(() -> y.copy(1, 1, 0, 0));
                Expect.told(() -> y.pass(0));
            }
            y.join(0, 0);
        };
        argument(refused);
    }

    // ---- the exception that is named first

    private static void isFirst(Class<? extends RuntimeException> want, Consumer<NotaryKiosk> made,
            Consumer<NotaryKiosk> call) {
        Expect.changesNothing("named first", want, made, call);
    }

    static void termsIndexIsNamedAheadOfArgument() {
        Document.says(Document.TERMS, FIRST_NAMED);
        for (String name : Calls.names()) {
            Calls.noSuchAheadOfOutOfRange(name);
        }
        isFirst(Expect.INDEX, Made::someOfAll, y -> y.join(6, 6));
        isFirst(Expect.INDEX, Made::someOfAll, y -> y.cut(-1, -1));
        isFirst(Expect.INDEX, Made::someOfAll, y -> y.grant(0, 10, 10));
        isFirst(Expect.INDEX, Made::someOfAll, y -> y.grant(6, 3, 3));
        isFirst(Expect.INDEX, Made::someOfAll, y -> y.passOn(6, 0, 2));
        isFirst(Expect.INDEX, Made::someOfAll, y -> y.revoke(6, 9, 0));
        isFirst(Expect.INDEX, Made::someOfAll, y -> y.copy(1, 3, 2, 0));
        isFirst(Expect.INDEX, Made::someOfAll, y -> y.copy(1, 0, -1, 0));
        isFirst(Expect.INDEX, Made::someOfAll, y -> y.copy(6, 1, 0, 64));
    }

    static void termsIndexIsNamedAheadOfState() {
        Document.says(Document.TERMS, FIRST_NAMED);
        isFirst(Expect.INDEX, Made.withPowers(40), y -> y.grant(6, 1, 2));
        isFirst(Expect.INDEX, Made.withPowers(40), y -> y.passOn(0, 40, 3));
        isFirst(Expect.INDEX, Made.withNews(160), y -> y.passOn(0, 0, 10));
        isFirst(Expect.INDEX, Made.withNews(160), y -> y.grant(0, -1, 2));
        isFirst(Expect.INDEX, Made.withNews(160), y -> y.revoke(0, 1, 1));
        isFirst(Expect.INDEX, Made.withNews(160), y -> y.depute(6, 0, 0));
        isFirst(Expect.INDEX, Made.withNews(160), y -> y.act(0, 2, 1, 1));
        isFirst(Expect.INDEX, Made.withNews(160), y -> y.act(0, 10, 0, 1));
        isFirst(Expect.INDEX, Made.withCopies(12), y -> y.copy(3, 0, 4, 0));
        isFirst(Expect.INDEX, Made.withCopies(12), y -> y.copy(6, 0, 0, 0));
        isFirst(Expect.INDEX, Made::someOfAll, y -> y.forge(0, 2, 3, 5));
        isFirst(Expect.INDEX, Made::someOfAll, y -> y.forge(2, 0, 3, 5));
    }

    static void termsArgumentIsNamedAheadOfState() {
        Document.says(Document.TERMS, FIRST_NAMED);
        isFirst(Expect.ARGUMENT, Made.inTheHour(400), y -> y.pass(51));
        isFirst(Expect.ARGUMENT, Made.inTheHour(400), y -> y.pass(0));
        isFirst(Expect.ARGUMENT, Made.inTheHour(400), y -> y.pass(Integer.MAX_VALUE));
        isFirst(Expect.ARGUMENT, Made.withPowers(40), y -> y.grant(0, 1, 1));
        isFirst(Expect.ARGUMENT, Made.withNews(160), y -> y.grant(0, 1, 1));
        isFirst(Expect.ARGUMENT, Made.withPowers(40), y -> y.passOn(0, 0, 2));
        isFirst(Expect.ARGUMENT, Made.withPowers(40), y -> y.passOn(0, 1, 3));
        isFirst(Expect.ARGUMENT, Made.withNews(160), y -> y.passOn(0, 0, 2));
        isFirst(Expect.ARGUMENT, Made::onePower, y -> y.passOn(5, 0, 2));
        isFirst(Expect.ARGUMENT, Made::line, y -> y.passOn(5, 2, 9));
        isFirst(Expect.ARGUMENT, Made.withNews(160), y -> y.revoke(0, 2, 0));
        isFirst(Expect.ARGUMENT, Made::onePower, y -> y.revoke(5, 2, 0));
        isFirst(Expect.ARGUMENT, Made.withNews(160), y -> y.depute(0, 0, 101));
        isFirst(Expect.ARGUMENT, Made::someOfAll, y -> y.depute(1, 101, 5));
        isFirst(Expect.ARGUMENT, Made.withNews(160), y -> y.act(0, 2, 0, 0));
        isFirst(Expect.ARGUMENT, Made::onePower, y -> y.act(5, 3, 0, 10001));
        isFirst(Expect.ARGUMENT, Made.withCopies(12), y -> y.copy(3, 1, 0, 0));
        isFirst(Expect.ARGUMENT, Made.withCopies(12), y -> y.copy(3, 0, 0, 64));
        isFirst(Expect.ARGUMENT, Made::someOfAll, y -> y.forge(0, 0, 3, 10001));
        isFirst(Expect.ARGUMENT, Made::someOfAll, y -> y.forge(0, 0, 3, -1));
    }

    // ---- no such one

    static void termsNoSuchOneForEachMethod() {
        Document.says(Document.TERMS, NO_SUCH_ONE);
        for (String name : Calls.names()) {
            Expect.passes(name, () -> Calls.of(name).answer(Made.by(Made::someOfAll)));
            Calls.noSuch(name);
        }
    }

    static void termsThereIsNothingInANewObject() {
        Document.says(Document.TERMS, NO_SUCH_ONE);
        for (int none : new int[] {0, -1, Integer.MIN_VALUE, Integer.MAX_VALUE}) {
            NotaryKiosk x = new NotaryKiosk();
            Expect.fails("power " + none, Expect.INDEX, () -> x.passOn(0, none, 1));
            Expect.fails("power " + none, Expect.INDEX, () -> x.revoke(0, 1, none));
            Expect.fails("power " + none, Expect.INDEX, () -> x.act(0, 1, none, 1));
            Expect.fails("power " + none, Expect.INDEX, () -> x.against(0, 1, none, 1));
            Expect.fails("power " + none, Expect.INDEX, () -> x.beyond(none));
            Expect.fails("piece " + none, Expect.INDEX, () -> x.came(0, none));
            Expect.fails("piece " + none, Expect.INDEX, () -> x.cameByLinks(0, none));
            Expect.fails("piece " + none, Expect.INDEX, () -> x.isRead(0, none));
            Expect.fails("record " + none, Expect.INDEX, () -> x.tamper(0, none, 1));
            Expect.fails("record " + none, Expect.INDEX, () -> x.copy(0, none, none, 0));
            Expect.fails("record " + none, Expect.INDEX, () -> x.part(0, none, 0));
            Expect.fails("copy " + none, Expect.INDEX, () -> x.forge(none, 0, 0, 0));
            Expect.fails("copy " + none, Expect.INDEX, () -> x.copied(none, 0, 0));
            Expect.fails("copy " + none, Expect.INDEX, () -> x.isTrue(none));
        }
    }

    // ---- what the interface says ahead of the calls

    static void termsWhatTheInterfaceSaysAheadOfTheCalls() throws IOException {
        List<String> program = Files.readAllLines(Path.of("src/main/java/NotaryKiosk.java"));
        for (String sentence : Document.sentencesThatBegin(Document.TERMS, "Ahead of the calls ")) {
            Document.says(Document.TERMS, sentence);
            String says = sentence.substring(sentence.indexOf("----"), sentence.length() - 1);
            String names = sentence.substring("Ahead of the calls ".length(), sentence.indexOf(" the interface"));
            for (String name : names.split(", ")) {
                Expect.is(name, lastSaidAhead(program, name.replace("`", "")), "// " + says);
            }
        }
    }

    private static String lastSaidAhead(List<String> program, String name) {
        String said = "nothing";
        for (String line : program) {
            if (line.strip().startsWith("// ----")) {
                said = line.strip();
            }
            if (line.matches("    public (int|boolean|void) " + name + "\\(.*")) {
                return said;
            }
        }
        return "there is no " + name;
    }

    // ---- 512 calls

    static void whatItIsGoodFor512Calls() {
        Document.says(Document.WHAT_IT_IS, CALLS_512);
        NotaryKiosk x = Made.by(Made.inTheHour(50));
        x.grant(0, 1, 2);
        for (int call = 3; call <= 161; call++) {
            x.act(0, 2, 0, 1);
        }
        for (int call = 162; call <= 508; call++) {
            x.tamper(0, call % 159, call);
        }
        Expect.is("the call 509", x.part(0, 508 % 159, 3), 508);
        Expect.is("the call 510", x.standing(), 159);
        Expect.is("the call 511", x.fault(0, 158), 0);
        Expect.is("the call 512", x.pass(50), 0);
    }

    private RefusalsSentences() {
    }
}
