import java.util.function.Consumer;

/** The sentences of promises 11 to 13 and 32 to 38: acts, whether they stand, and their records. */
final class ActsSentences {

    private static final String NEXT_ACTS = "Sets by whom and of which kind the next acts are; at first by the "
            + "notary, of the kind 0.";
    private static final String ACT_NOW = "Throws `IllegalStateException` if there are 160 pieces of news, or there "
            + "is a reason against it by what the kiosk has read";
    private static final String AMOUNT = "- `amount`: 1 to 10000";
    private static final String AMOUNT_OUT_OF_RANGE = "Throws `IllegalArgumentException` if amount is out of range";
    private static final String NO_SUCH_RECORD = "Throws `IndexOutOfBoundsException` if there is no such kiosk or "
            + "record";
    private static final String TAMPER = "Changes the amount of a record by another hand; the kept seal stays, what "
            + "was done with powers does, too.";
    private static final String FAULT = "Returns the reason for which an act does not stand, from all news and the "
            + "hours at which it came, by the amount with which it was made, whatever its record tells by now.";

    // ---- promise 11

    static void promise11AtFirstTheNotaryAndTheKind0() {
        Document.says(11, NEXT_ACTS);
        NotaryKiosk x = new NotaryKiosk();
        x.draft(1, 100, 1000, 9, 0);
        x.grant(0, 1, 2);
        Expect.is("neither is a reason against it", x.against(0, 2, 0, 1), 0);
        x.act(0, 2, 0, 1);
        Expect.is("the kind", x.part(0, 0, 2), 0);
        Expect.is("the officer", x.part(0, 0, 4), 0);
    }

    static void promise11TheNextActs() {
        Document.says(11, NEXT_ACTS);
        NotaryKiosk x = Made.by(Made::onePower);
        x.depute(0, 1, 0);
        x.act(0, 2, 0, 1);
        x.prepare(0, 3);
        x.act(0, 2, 0, 1);
        x.act(0, 2, 0, 1);
        x.pass(1);
        x.prepare(1, 2);
        x.act(0, 2, 0, 1);
        int[][] told = {{0, 0}, {3, 0}, {3, 0}, {2, 1}};
        for (int record = 0; record < 4; record++) {
            Expect.is("the kind of " + record, x.part(0, record, 2), told[record][0]);
            Expect.is("the officer of " + record, x.part(0, record, 4), told[record][1]);
        }
    }

    static void promise11TheOfficerIs0Or1() {
        Document.says(11, "- `officer`: 0 for the notary, 1 for the deputy");
        NotaryKiosk x = Made.by(Made::onePower);
        x.prepare(0, 0);
        Expect.is("the notary acts", x.against(0, 2, 0, 1), 0);
        x.prepare(1, 0);
        Expect.is("and no deputy", x.against(0, 2, 0, 1), 8);
        x.depute(0, 0, 0);
        Expect.is("the deputy acts", x.against(0, 2, 0, 1), 0);
        x.prepare(0, 0);
        Expect.is("and no notary", x.against(0, 2, 0, 1), 8);
        Calls.outOfRange("prepare", 0);
    }

    static void promise11TheKindIs0To5() {
        Document.says(11, "- `kind`: 0 to 5");
        for (int kind = 0; kind < 6; kind++) {
            NotaryKiosk x = new NotaryKiosk();
            x.draft(1 << kind, 10, 10, 1, 0);
            x.grant(0, 1, 2);
            x.prepare(0, kind);
            x.act(0, 2, 0, 1);
            Expect.is("kind", x.part(0, 0, 2), kind);
            x.prepare(0, (kind + 1) % 6);
            Expect.is("another kind", x.against(0, 2, 0, 1), 5);
        }
        Calls.outOfRange("prepare", 1);
    }

    static void promise11OutOfRange() {
        Document.says(11, "Throws `IllegalArgumentException` if officer or kind is out of range");
        Calls.outOfRange("prepare");
        for (int[] a : new int[][] {{2, 6}, {-1, -1}, {2, 3}, {0, 6}}) {
            Expect.changesNothing("neither is set", Expect.ARGUMENT, Made::someOfAll, y -> y.prepare(a[0], a[1]));
        }
    }

    // ---- promise 12

    static void promise12MakesAnAct() {
        Document.says(12, "Makes an act.");
        NotaryKiosk x = Made.by(Made.inTheHour(4));
        x.grant(3, 1, 2);
        x.grant(3, 5, 6);
        x.prepare(0, 2);
        x.act(3, 6, 1, 77);
        int[] parts = {6, 1, 2, 77, 0, 4};
        for (int part = 0; part < 6; part++) {
            Expect.is("part " + part, x.part(3, 0, part), parts[part]);
        }
        Expect.is("it is news", x.news(), 3);
        Expect.is("came where it is made", x.came(3, 2), 4);
        Expect.is("read there", x.isRead(3, 2), true);
        Expect.is("not come elsewhere", x.came(0, 2), -1);
        Expect.is("done", x.done(3, 1), 77);
        Expect.is("it stands", x.stands(3, 0), true);
    }

    static void promise12AmountsFrom1To10000() {
        Document.says(12, AMOUNT);
        NotaryKiosk x = new NotaryKiosk();
        x.grant(0, 1, 2);
        Expect.is("the least", x.act(0, 2, 0, 1), 0);
        Expect.is("the most", x.act(0, 2, 0, 10000), 1);
        Expect.is("both are done", x.done(0, 0), 10001);
        Expect.fails("0", Expect.ARGUMENT, () -> x.act(0, 2, 0, 0));
        Expect.fails("10001", Expect.ARGUMENT, () -> x.act(0, 2, 0, 10001));
    }

    static void promise12TheRecordOfTheKiosk() {
        Document.says(12, "Returns the record of the kiosk.");
        NotaryKiosk x = Made.by(Made::onePower);
        x.grant(4, 1, 2);
        Expect.is("the first one", x.act(0, 2, 0, 1), 0);
        Expect.is("the next one", x.act(0, 2, 0, 1), 1);
        Expect.is("of another kiosk", x.act(4, 2, 1, 1), 0);
        Expect.is("the third one", x.act(0, 2, 0, 1), 2);
    }

    static void promise12NoSuchKioskPersonOrPower() {
        Document.says(12, "Throws `IndexOutOfBoundsException` if there is no such kiosk, person or power");
        Calls.noSuch("act");
        Expect.changesNothing("no power at all", Expect.INDEX, Made::nothing, y -> y.act(0, 2, 0, 1));
    }

    static void promise12TheAmountIsOutOfRange() {
        Document.says(12, AMOUNT_OUT_OF_RANGE);
        Calls.outOfRange("act");
        Expect.changesNothing("-1", Expect.ARGUMENT, Made::someOfAll, y -> y.act(1, 2, 0, -1));
    }

    static void promise12There160PiecesOfNews() {
        Document.says(12, ACT_NOW);
        Expect.is("159", Made.by(Made.withNews(159)).act(0, 2, 0, 1), 158);
        Expect.changesNothing("160", Expect.STATE, Made.withNews(160), y -> y.act(0, 2, 0, 1));
    }

    /** There is one power, of the person 9 at the kiosk 2, as the draft tells; the next acts are of the kind 3. */
    private static Consumer<NotaryKiosk> granted(int scope, int limit, int total, int hours) {
        return y -> {
            y.prepare(0, 3);
            y.draft(scope, limit, total, hours, 0);
            y.grant(2, 1, 9);
        };
    }

    private static void isRefused(int reason, Consumer<NotaryKiosk> made) {
        Expect.is("the reason", Made.by(made).against(2, 9, 0, 10), reason);
        Expect.changesNothing("the reason " + reason, Expect.STATE, made, y -> y.act(2, 9, 0, 10));
    }

    static void promise12EachReasonAgainstIt() {
        Document.says(12, ACT_NOW);
        isRefused(1, y -> y.grant(3, 1, 9));
        isRefused(2, y -> y.grant(2, 9, 1));
        isRefused(3, granted(63, 100, 100, 9).andThen(y -> y.revoke(2, 1, 0)));
        isRefused(4, granted(63, 100, 100, 2).andThen(y -> y.pass(3)));
        isRefused(5, granted(63 - 8, 100, 100, 9));
        isRefused(6, granted(63, 9, 100, 9));
        isRefused(7, granted(63, 100, 9, 9));
        isRefused(8, granted(63, 100, 100, 9).andThen(y -> y.prepare(1, 3)));
    }

    static void promise12NoReasonAgainstIt() {
        Document.says(12, ACT_NOW);
        Consumer<NotaryKiosk> narrow = granted(8, 10, 10, 3).andThen(y -> y.pass(3));
        Expect.is("all of it is just within", Made.by(narrow).act(2, 9, 0, 10), 0);
    }

    static void promise12ByWhatTheKioskHasRead() {
        Document.says(12, ACT_NOW);
        NotaryKiosk x = Made.by(Made::onePower);
        x.join(0, 1);
        Expect.fails("the power has not come", Expect.STATE, () -> x.act(1, 2, 0, 1));
        x.pass(1);
        Expect.fails("it lies in the mail", Expect.STATE, () -> x.act(1, 2, 0, 1));
        x.read(1);
        Expect.is("it is read", x.act(1, 2, 0, 1), 0);
        x.revoke(0, 1, 0);
        Expect.is("the revocation has not come", x.act(1, 2, 0, 1), 1);
        x.pass(1);
        Expect.is("it lies in the mail", x.act(1, 2, 0, 1), 2);
        x.read(1);
        Expect.fails("it is read", Expect.STATE, () -> x.act(1, 2, 0, 1));
        Expect.is("none was made", x.records(1), 3);
    }

    // ---- promise 13

    static void promise13ChangesTheAmount() {
        Document.says(13, TAMPER);
        NotaryKiosk x = Made.by(Made::fourRecords);
        x.tamper(3, 1, 21);
        int[] parts = {1, 0, 1, 21, 0, 0};
        for (int part = 0; part < 6; part++) {
            Expect.is("part " + part, x.part(3, 1, part), parts[part]);
        }
        Expect.is("not that of the record ahead", x.part(3, 0, 3), 10);
        Expect.is("nor of the one behind", x.part(3, 2, 3), 30);
    }

    static void promise13TheKeptSealStays() {
        Document.says(13, TAMPER);
        NotaryKiosk x = Made.by(Made::fourRecords);
        int[] seals = {x.seal(3, 0), x.seal(3, 1), x.seal(3, 2), x.seal(3, 3)};
        x.tamper(3, 0, 11);
        x.tamper(3, 3, 10000);
        for (int record = 0; record < 4; record++) {
            Expect.is("the seal of " + record, x.seal(3, record), seals[record]);
        }
    }

    static void promise13WhatWasDoneStays() {
        Document.says(13, TAMPER);
        NotaryKiosk x = Made.by(Made::fourRecords);
        x.tamper(3, 0, 10000);
        x.tamper(3, 1, 1);
        Expect.is("done", x.done(3, 0), 100);
        Expect.is("beyond", x.beyond(0), 0);
        NotaryKiosk used = Made.by(y -> {
            granted(63, 10, 10, 9).accept(y);
            y.act(2, 9, 0, 10);
            y.tamper(2, 0, 1);
        });
        Expect.is("the total stays used up", used.against(2, 9, 0, 1), 7);
    }

    static void promise13AmountsFrom1To10000() {
        Document.says(13, AMOUNT);
        NotaryKiosk x = Made.by(Made::fourRecords);
        x.tamper(3, 0, 1);
        Expect.is("the least", x.part(3, 0, 3), 1);
        x.tamper(3, 0, 10000);
        Expect.is("the most", x.part(3, 0, 3), 10000);
        Expect.fails("0", Expect.ARGUMENT, () -> x.tamper(3, 0, 0));
        Expect.fails("10001", Expect.ARGUMENT, () -> x.tamper(3, 0, 10001));
        Expect.is("above the limit of the power", Made.by(Made.withNews(2)).tamper(0, 0, 9999), 1);
    }

    static void promise13TheAmountBefore() {
        Document.says(13, "Returns the amount before.");
        NotaryKiosk x = Made.by(Made::fourRecords);
        Expect.is("as it was made", x.tamper(3, 2, 5), 30);
        Expect.is("as it was changed", x.tamper(3, 2, 6), 5);
        Expect.is("the same once more", x.tamper(3, 2, 6), 6);
        Expect.is("another record", x.tamper(3, 3, 30), 40);
    }

    static void promise13NoSuchKioskOrRecord() {
        Document.says(13, NO_SUCH_RECORD);
        Calls.noSuch("tamper");
        Expect.changesNothing("no record at all", Expect.INDEX, Made::onePower, y -> y.tamper(0, 0, 1));
        Expect.changesNothing("of another kiosk", Expect.INDEX, Made::fourRecords, y -> y.tamper(0, 0, 1));
    }

    static void promise13TheAmountIsOutOfRange() {
        Document.says(13, AMOUNT_OUT_OF_RANGE);
        Calls.outOfRange("tamper");
    }

    // ---- promises 32 to 34

    /**
     * At the kiosk 1 four acts by one power: 0 ahead of a revocation at the kiosk 0, 1 when it had
     * not come, 2 when it lay in the mail; and the record 0 of the kiosk 2, to which it never comes.
     */
    private static void revokedElsewhere(NotaryKiosk y) {
        Made.onePower(y);
        y.join(0, 1);
        y.join(0, 2);
        y.pass(1);
        y.read(1);
        y.read(2);
        y.cut(0, 2);
        y.act(1, 2, 0, 1);
        y.revoke(0, 1, 0);
        y.act(1, 2, 0, 2);
        y.pass(1);
        y.act(1, 2, 0, 3);
        y.act(2, 2, 0, 4);
    }

    static void promise32WhetherItStands() {
        Document.says(32, "Tells whether an act stands.");
        NotaryKiosk x = Made.by(ActsSentences::revokedElsewhere);
        boolean[] stands = {true, true, false};
        for (int times = 0; times < 2; times++) {
            for (int record = 0; record < 3; record++) {
                Expect.is("the record " + record, x.stands(1, record), stands[record]);
            }
            Expect.is("where it never came", x.stands(2, 0), true);
            Made.passAndReadAll(x);
        }
    }

    static void promise32NoSuchKioskOrRecord() {
        Document.says(32, NO_SUCH_RECORD);
        Calls.noSuch("stands");
        noSuchRecord("stands", (x, kiosk, record) -> x.stands(kiosk, record));
    }

    private interface OfRecord {
        Object ask(NotaryKiosk x, int kiosk, int record);
    }

    /** The records of a kiosk are no records of another one, and a new object has none. */
    private static void noSuchRecord(String name, OfRecord call) {
        NotaryKiosk none = new NotaryKiosk();
        NotaryKiosk four = Made.by(Made::fourRecords);
        for (int kiosk = 0; kiosk < 6; kiosk++) {
            int at = kiosk;
            Expect.fails(name + " of none", Expect.INDEX, () -> call.ask(none, at, 0));
            for (int record = 0; record < 5; record++) {
                int one = record;
                boolean there = kiosk == 3 && record < 4;
                String answer = Expect.told(() -> call.ask(four, at, one));
                Expect.is(name + " " + at + " " + one, answer.equals("IndexOutOfBoundsException"), !there);
            }
        }
    }

    static void promise33TheReason() {
        Document.says(33, FAULT);
        NotaryKiosk x = Made.by(ActsSentences::revokedElsewhere);
        int[] faults = {0, 0, 3};
        for (int times = 0; times < 2; times++) {
            for (int record = 0; record < 3; record++) {
                Expect.is("the record " + record, x.fault(1, record), faults[record]);
            }
            Expect.is("where it never came", x.fault(2, 0), 0);
            Made.passAndReadAll(x);
        }
    }

    /** A total of 100, at the kiosk 0 60 of it: the kiosk 1 does 40 and 1 when this lies in its mail. */
    private static void doneElsewhere(NotaryKiosk y) {
        y.draft(63, 60, 100, 50, 0);
        y.join(0, 1);
        y.grant(0, 1, 2);
        y.pass(1);
        y.read(1);
        y.act(0, 2, 0, 60);
        y.pass(1);
        y.act(1, 2, 0, 40);
        y.act(1, 2, 0, 1);
    }

    static void promise33ByTheAmountItWasMadeWith() {
        Document.says(33, FAULT);
        NotaryKiosk x = Made.by(ActsSentences::doneElsewhere);
        Expect.is("the total itself", x.fault(1, 0), 0);
        Expect.is("above it by one", x.fault(1, 1), 7);
        x.tamper(1, 0, 10000);
        Expect.is("whatever the record tells", x.fault(1, 0), 0);
        x.tamper(1, 0, 1);
        Expect.is("whatever the record ahead tells", x.fault(1, 1), 7);
        x.tamper(0, 0, 1);
        Expect.is("whatever a record elsewhere tells", x.fault(1, 1), 7);
        Expect.is("and it stands no more for that", x.stands(1, 1), false);
    }

    static void promise33From0IfItStands() {
        Document.says(33, "Returns the reason; 0 if it stands.");
        NotaryKiosk x = Made.by(Made.withNews(160));
        for (int record = 0; record < 159; record += 79) {
            Expect.is("the record " + record, x.fault(0, record), 0);
        }
        NotaryKiosk deputed = new NotaryKiosk();
        deputed.join(0, 1);
        deputed.grant(1, 1, 2);
        deputed.depute(1, 1, 0);
        deputed.pass(1);
        deputed.act(1, 2, 0, 1);
        deputed.pass(1);
        deputed.act(1, 2, 0, 1);
        Expect.is("the deputy was to act", deputed.fault(1, 0), 8);
        Expect.is("no longer", deputed.fault(1, 1), 0);
    }

    /** Whatever was asked ahead of it, and whichever piece it is, even the first one of all. */
    static void promise33ByTheHoursAtWhichNewsCame() {
        Document.says(33, FAULT);
        NotaryKiosk x = new NotaryKiosk();
        x.join(0, 1);
        x.depute(1, 0, 100);
        x.grant(1, 1, 2);
        x.act(1, 2, 0, 1);
        x.pass(1);
        Expect.is("the deputation came behind it", x.fault(1, 0), 0);
        x.read(1);
        Expect.is("by now it is read", x.against(1, 2, 0, 1), 8);
        Expect.is("it came behind it, though it is read", x.fault(1, 0), 0);
        Expect.is("by all news", x.beyond(0), 0);
        Expect.is("it came behind it, though it is news", x.fault(1, 0), 0);
        x.prepare(1, 0);
        x.act(1, 2, 0, 1);
        Expect.is("nothing but the act itself is behind it", x.fault(1, 1), 0);
    }

    static void promise33NoSuchKioskOrRecord() {
        Document.says(33, NO_SUCH_RECORD);
        Calls.noSuch("fault");
        noSuchRecord("fault", (x, kiosk, record) -> x.fault(kiosk, record));
    }

    static void promise34HowManyActsStand() {
        Document.says(34, "Returns how many acts stand.");
        NotaryKiosk x = new NotaryKiosk();
        Expect.is("no acts", x.standing(), 0);
        revokedElsewhere(x);
        Expect.is("three of four, at two kiosks", x.standing(), 3);
        Made.passAndReadAll(x);
        Expect.is("for good", x.standing(), 3);
        Expect.is("two of three", Made.by(ActsSentences::doneElsewhere).standing(), 2);
        Expect.is("all of 159", Made.by(Made.withNews(160)).standing(), 159);
        NotaryKiosk all = new NotaryKiosk();
        for (int kiosk = 0; kiosk < 6; kiosk++) {
            all.grant(kiosk, 1, 2);
            all.act(kiosk, 2, kiosk, 1);
            Expect.is("one at each kiosk", all.standing(), kiosk + 1);
        }
    }

    // ---- promises 35 to 38

    static void promise35ThePieceThatItIs() {
        Document.says(35, "Returns the piece of news that an act is.");
        NotaryKiosk x = new NotaryKiosk();
        x.grant(0, 1, 2);
        x.act(0, 2, 0, 1);
        x.grant(5, 1, 2);
        x.act(5, 2, 1, 1);
        x.depute(3, 0, 0);
        x.act(0, 2, 0, 1);
        x.act(5, 2, 1, 1);
        int[][] pieces = {{0, 1, 5}, {5, 3, 6}};
        for (int[] at : pieces) {
            Expect.is("the first one of " + at[0], x.pieceOf(at[0], 0), at[1]);
            Expect.is("the second one of " + at[0], x.pieceOf(at[0], 1), at[2]);
        }
        Expect.is("the last one there can be", Made.by(Made.withNews(160)).pieceOf(0, 158), 159);
    }

    static void promise35NoSuchKioskOrRecord() {
        Document.says(35, NO_SUCH_RECORD);
        Calls.noSuch("pieceOf");
        noSuchRecord("pieceOf", (x, kiosk, record) -> x.pieceOf(kiosk, record));
    }

    static void promise36APartAsItIsNow() {
        Document.says(36, "Returns a part of a record, as it is now.");
        NotaryKiosk x = Made.by(Made::fourRecords);
        x.pass(9);
        x.prepare(0, 5);
        x.act(3, 1, 0, 50);
        int[][] parts = {{1, 0, 0, 10, 0, 0}, {1, 0, 3, 40, 0, 0}, {1, 0, 5, 50, 0, 9}};
        int[] records = {0, 3, 4};
        for (int one = 0; one < 3; one++) {
            for (int part = 0; part < 6; part++) {
                Expect.is("part " + part + " of " + records[one], x.part(3, records[one], part), parts[one][part]);
            }
        }
        x.tamper(3, 4, 51);
        Expect.is("now", x.part(3, 4, 3), 51);
    }

    static void promise36NoSuchKioskRecordOrPart() {
        Document.says(36, "Throws `IndexOutOfBoundsException` if there is no such kiosk, record or part");
        Calls.noSuch("part");
        noSuchRecord("part", (x, kiosk, record) -> x.part(kiosk, record, 5));
    }

    static void promise37TheKeptSeal() {
        Document.says(37, "Returns the kept seal of a record.");
        NotaryKiosk x = Made.by(Made::fourRecords);
        for (int record = 0; record < 4; record++) {
            Expect.is("of " + record, x.seal(3, record), Seals.ofRecord(x, 3, record));
        }
        int kept = x.seal(3, 2);
        x.tamper(3, 2, 31);
        Expect.is("kept", x.seal(3, 2), kept);
        Expect.is("though it would come out otherwise", kept == Seals.ofRecord(x, 3, 2), false);
    }

    static void promise37NoSuchKioskOrRecord() {
        Document.says(37, NO_SUCH_RECORD);
        Calls.noSuch("seal");
        noSuchRecord("seal", (x, kiosk, record) -> x.seal(kiosk, record));
    }

    static void promise38TheFirstBrokenRecord() {
        Document.says(38, "Returns the first record of a kiosk that is broken.");
        NotaryKiosk x = Made.by(Made::fourRecords);
        x.tamper(3, 3, 41);
        Expect.is("the last one", x.broken(3), 3);
        x.tamper(3, 1, 21);
        Expect.is("the first of two", x.broken(3), 1);
        x.tamper(3, 0, 11);
        Expect.is("the record 0", x.broken(3), 0);
        x.tamper(3, 0, 10);
        Expect.is("no longer", x.broken(3), 1);
        Expect.is("another kiosk", x.broken(2), -1);
    }

    static void promise38NoneIsBroken() {
        Document.says(38, "Returns the record; -1 if none is.");
        NotaryKiosk x = new NotaryKiosk();
        Expect.is("no records", x.broken(3), -1);
        Made.fourRecords(x);
        Expect.is("four", x.broken(3), -1);
        x.tamper(3, 2, 30);
        Expect.is("changed to what it was", x.broken(3), -1);
        x.tamper(3, 2, 29);
        x.tamper(3, 2, 30);
        Expect.is("mended", x.broken(3), -1);
        Expect.is("159 records", Made.by(Made.withNews(160)).broken(0), -1);
    }

    static void promise38NoSuchKiosk() {
        Document.says(38, "Throws `IndexOutOfBoundsException` if there is no such kiosk");
        Calls.noSuch("broken");
    }

    private ActsSentences() {
    }
}
