/** All that an object of few powers and little news tells, as one text. */
final class Sight {

    static String of(NotaryKiosk x) {
        StringBuilder text = new StringBuilder();
        text.append("hour ").append(x.hour()).append(" news ").append(x.news());
        text.append(" powers ").append(x.powers()).append(" standing ").append(x.standing());
        for (int kiosk = 0; kiosk < 6; kiosk++) {
            addKiosk(text, x, kiosk);
        }
        for (int copy = 0; Expect.told(sizeOf(x, copy)).matches("\\d+"); copy++) {
            addCopy(text, x, copy);
        }
        return text.toString();
    }

    /** Calls that would come out otherwise if the draft, the officer, the kind or a limit were changed. */
    static String ofMoreCalls(NotaryKiosk x) {
        StringBuilder text = new StringBuilder();
        text.append(Expect.told(() -> x.grant(2, 8, 9)));
        int power = x.powers() - 1;
        text.append(' ').append(Expect.told(() -> x.passOn(2, power, 7)));
        for (int amount : new int[] {1, 50, 100, 101, 10000}) {
            text.append(' ').append(Expect.told(() -> x.against(2, 9, power, amount)));
        }
        text.append(' ').append(Expect.told(() -> x.act(2, 9, power, 1)));
        text.append(' ').append(Expect.told(() -> x.pass(1)));
        for (int kind = 0; kind < 6; kind++) {
            x.prepare(0, kind);
            text.append(' ').append(x.choices(2, 9, 1));
        }
        text.append(' ').append(Expect.told(() -> x.pass(20)));
        text.append(' ').append(x.choices(2, 9, 1));
        return text.toString();
    }

    private static Expect.Call sizeOf(NotaryKiosk x, int copy) {
        return () -> x.size(copy);
    }

    private static void addKiosk(StringBuilder text, NotaryKiosk x, int kiosk) {
        text.append("\nkiosk ").append(kiosk).append(" joined");
        for (int other = 0; other < kiosk; other++) {
            text.append(' ').append(x.areJoined(kiosk, other));
        }
        text.append(" mail ").append(x.mail(kiosk)).append(" broken ").append(x.broken(kiosk)).append(" came");
        for (int piece = 0; piece < x.news(); piece++) {
            text.append(' ').append(x.came(kiosk, piece)).append(x.isRead(kiosk, piece) ? "r" : "");
        }
        for (int power = 0; power < x.powers(); power++) {
            text.append(" good ").append(x.isGood(kiosk, power)).append(" done ").append(x.done(kiosk, power));
        }
        for (int record = 0; record < x.records(kiosk); record++) {
            text.append(" record ").append(x.seal(kiosk, record)).append(' ').append(x.stands(kiosk, record));
            text.append(' ').append(x.part(kiosk, record, 3));
        }
    }

    private static void addCopy(StringBuilder text, NotaryKiosk x, int copy) {
        text.append("\ncopy ").append(x.brokenCopy(copy)).append(' ').append(x.isTrue(copy));
        for (int place = 0; place < x.size(copy); place++) {
            for (int part = 0; part < 6; part++) {
                text.append(' ').append(x.copied(copy, place, part));
            }
        }
    }

    private Sight() {
    }
}
