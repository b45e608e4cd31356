import java.util.ArrayList;
import java.util.List;
import java.util.function.Function;
import java.util.function.Supplier;

/**
 * All that an object tells, as one text. Every few questions go to a new object that is made
 * alike, so that none is used for more calls than the document allows.
 */
final class Sight {
    private static final int QUESTIONS_TO_ONE = 250;

    private final List<Function<NotaryKiosk, Object>> questions = new ArrayList<>();

    static String of(Supplier<NotaryKiosk> made) {
        Sight sight = new Sight();
        sight.gather(made.get());
        return sight.answers(made);
    }

    /** Calls that would come out otherwise if the draft, the officer, the kind or a limit were changed. */
    static String ofMoreCalls(NotaryKiosk x) {
        StringBuilder text = new StringBuilder();
        tell(text, () -> x.grant(2, 8, 9));
        int power = x.powers() - 1;
        tell(text, () -> x.act(2, 9, power, 1));
        tell(text, () -> x.part(2, 0, 2));
        for (int amount : new int[] {1, 49, 50, 51, 99, 100, 101, 10000}) {
            tell(text, () -> x.against(2, 9, power, amount));
        }
        tell(text, () -> x.act(2, 9, power, 49));
        tell(text, () -> x.against(2, 9, power, 10));
        tell(text, () -> x.against(2, 9, power, 11));
        tellScope(text, x);
        tellDepth(text, x, power);
        tell(text, () -> x.copy(1, 0, 0, 0));
        tell(text, () -> x.depute(2, 3, 0));
        for (int hours = 0; hours < 12; hours++) {
            tell(text, () -> x.pass(1));
            tell(text, () -> x.isGood(2, power));
            tell(text, () -> x.read(1));
        }
        return text.toString();
    }

    private static void tell(StringBuilder text, Expect.Call call) {
        text.append(Expect.told(call)).append(' ');
    }

    private static void tellScope(StringBuilder text, NotaryKiosk x) {
        for (int kind = 0; kind < 6; kind++) {
            x.prepare(0, kind);
            tell(text, () -> x.choices(2, 9, 1));
        }
    }

    private static void tellDepth(StringBuilder text, NotaryKiosk x, int power) {
        for (int depth = 0; depth < 3; depth++) {
            x.draft(1, 1, 1, 0, depth);
            tell(text, () -> x.passOn(2, power, 7));
        }
    }

    private String answers(Supplier<NotaryKiosk> made) {
        StringBuilder text = new StringBuilder();
        NotaryKiosk asked = null;
        for (int at = 0; at < questions.size(); at++) {
            if (at % QUESTIONS_TO_ONE == 0) {
                asked = made.get();
            }
            NotaryKiosk x = asked;
            Function<NotaryKiosk, Object> question = questions.get(at);
            tell(text, () -> question.apply(x));
        }
        return text.toString();
    }

    private void ask(Function<NotaryKiosk, Object> question) {
        questions.add(question);
    }

    private void gather(NotaryKiosk x) {
        int news = x.news();
        int powers = x.powers();
        ask(NotaryKiosk::hour);
        ask(NotaryKiosk::news);
        ask(NotaryKiosk::powers);
        ask(NotaryKiosk::standing);
        for (int kiosk = 0; kiosk < 6; kiosk++) {
            askKiosk(kiosk, news);
            askRecords(kiosk, x.records(kiosk));
            for (int power = 0; power < powers; power++) {
                askPowerAt(kiosk, power, x.holder(power));
            }
        }
        for (int power = 0; power < powers; power++) {
            askPower(power);
        }
        for (int copy = 0; copy < 12 && isThere(x, copy); copy++) {
            askCopy(copy, x.size(copy));
        }
    }

    private static boolean isThere(NotaryKiosk x, int copy) {
        return Expect.told(() -> x.size(copy)).matches("\\d+");
    }

    private void askKiosk(int kiosk, int news) {
        ask(x -> x.records(kiosk));
        ask(x -> x.mail(kiosk));
        ask(x -> x.broken(kiosk));
        for (int other = 0; other < 6; other++) {
            int to = other;
            ask(x -> x.areJoined(kiosk, to));
        }
        for (int number = 0; number < news; number++) {
            int piece = number;
            ask(x -> x.came(kiosk, piece));
            ask(x -> x.cameByLinks(kiosk, piece));
            ask(x -> x.isRead(kiosk, piece));
        }
    }

    private void askRecords(int kiosk, int records) {
        for (int number = 0; number < records; number++) {
            int record = number;
            ask(x -> x.stands(kiosk, record));
            ask(x -> x.fault(kiosk, record));
            ask(x -> x.pieceOf(kiosk, record));
            ask(x -> x.seal(kiosk, record));
            for (int told = 0; told < 6; told++) {
                int part = told;
                ask(x -> x.part(kiosk, record, part));
            }
        }
    }

    private void askPowerAt(int kiosk, int power, int holder) {
        ask(x -> x.isGood(kiosk, power));
        ask(x -> x.done(kiosk, power));
        ask(x -> x.against(kiosk, holder, power, 1));
        ask(x -> x.choices(kiosk, holder, 1));
    }

    private void askPower(int power) {
        ask(x -> x.source(power));
        ask(x -> x.holder(power));
        ask(x -> x.beyond(power));
    }

    private void askCopy(int copy, int places) {
        ask(x -> x.size(copy));
        ask(x -> x.brokenCopy(copy));
        ask(x -> x.isTrue(copy));
        for (int number = 0; number < places; number++) {
            int place = number;
            for (int told = 0; told < 6; told++) {
                int part = told;
                ask(x -> x.copied(copy, place, part));
            }
        }
    }

    private Sight() {
    }
}
