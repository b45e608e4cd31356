import java.util.function.Consumer;

/** The sentences of promises 16 to 31: what there is, and powers and acts as they are seen at a kiosk. */
final class SightsSentences {

    private static final String NO_SUCH_KIOSK = "Throws `IndexOutOfBoundsException` if there is no such kiosk";
    private static final String NO_SUCH_PIECE = "Throws `IndexOutOfBoundsException` if there is no such kiosk or piece";
    private static final String NO_SUCH_POWER = "Throws `IndexOutOfBoundsException` if there is no such power";
    private static final String NO_SUCH_POWER_THERE = "Throws `IndexOutOfBoundsException` if there is no such kiosk "
            + "or power";
    private static final String NOT_COME = "Returns the hour; -1 if it has not come there.";
    private static final String AMOUNT = "- `amount`: 1 to 10000";
    private static final String AMOUNT_OUT_OF_RANGE = "Throws `IllegalArgumentException` if amount is out of range";
    private static final String GOOD = "Tells whether a power is known, not revoked and not over now, by what a "
            + "kiosk has read.";
    private static final String DONE = "Returns what was done with a power, by what a kiosk has read.";
    private static final String BEYOND = "Returns by how much what was done with a power, by all news there is, is "
            + "above its total; 0 if it is not.";
    private static final String AGAINST = "Returns the reason against an act that is made now, as it is prepared, "
            + "by what a kiosk has read.";
    private static final String CHOICES = "Returns by how many powers an act could be made now, as it is prepared, "
            + "by what a kiosk has read.";

    // ---- promises 16 to 20

    static void promise16TheHourOfNow() {
        Document.says(16, "Returns the hour of now.");
        NotaryKiosk x = new NotaryKiosk();
        Expect.is("at first", x.hour(), 0);
        x.pass(1);
        x.pass(50);
        Expect.is("as many as passed", x.hour(), 51);
        x.grant(0, 1, 2);
        x.read(0);
        Expect.is("nothing else takes an hour", x.hour(), 51);
        Made.passTo(x, 400);
        Expect.is("the last one", x.hour(), 400);
    }

    static void promise17HowManyPieces() {
        Document.says(17, "Returns how many pieces of news there are.");
        Expect.is("none", new NotaryKiosk().news(), 0);
        NotaryKiosk x = Made.by(Made::someOfAll);
        Expect.is("of every kind", x.news(), 7);
        x.read(1);
        x.tamper(1, 0, 2);
        x.copy(1, 0, 0, 0);
        x.forge(2, 0, 0, 1);
        x.cut(0, 1);
        x.pass(1);
        Expect.is("nothing else is news", x.news(), 7);
        Expect.is("as many as there can be", Made.by(Made.withNews(160)).news(), 160);
    }

    static void promise18HowManyPowers() {
        Document.says(18, "Returns how many powers there are.");
        Expect.is("none", new NotaryKiosk().powers(), 0);
        NotaryKiosk x = Made.by(Made::someOfAll);
        Expect.is("granted and passed on, though one is revoked", x.powers(), 2);
        Made.passTo(x, 400);
        Expect.is("though they are over", x.powers(), 2);
        Expect.is("as many as there can be", Made.by(Made.withPowers(40)).powers(), 40);
    }

    static void promise19HowManyRecords() {
        Document.says(19, "Returns how many records a kiosk has.");
        NotaryKiosk x = Made.by(Made::someOfAll);
        int[] records = {0, 3, 0, 0, 0, 0};
        for (int kiosk = 0; kiosk < 6; kiosk++) {
            Expect.is("none at first", new NotaryKiosk().records(kiosk), 0);
            Expect.is("of " + kiosk, x.records(kiosk), records[kiosk]);
        }
        Expect.is("as many as there can be", Made.by(Made.withNews(160)).records(0), 159);
    }

    static void promise19NoSuchKiosk() {
        Document.says(19, NO_SUCH_KIOSK);
        Calls.noSuch("records");
    }

    static void promise20FalseForOneAndTheSame() {
        Document.says(20, "Tells whether two kiosks are joined; false for one and the same.");
        for (int kiosk = 0; kiosk < 6; kiosk++) {
            Expect.is("no kiosks are joined, " + kiosk, new NotaryKiosk().areJoined(kiosk, kiosk), false);
            Expect.is("all kiosks are joined, " + kiosk, Made.by(Made::allJoined).areJoined(kiosk, kiosk), false);
        }
    }

    static void promise20WhetherTwoAreJoined() {
        Document.says(20, "Tells whether two kiosks are joined; false for one and the same.");
        NotaryKiosk x = Made.by(Made::joinedInARow);
        for (int kiosk = 0; kiosk < 6; kiosk++) {
            for (int other = 0; other < 6; other++) {
                Expect.is(kiosk + " and " + other, x.areJoined(kiosk, other), Math.abs(kiosk - other) == 1);
            }
        }
        x.cut(3, 2);
        Expect.is("cut", x.areJoined(2, 3), false);
        Expect.is("cut, the other way round", x.areJoined(3, 2), false);
    }

    static void promise20NoSuchKiosk() {
        Document.says(20, NO_SUCH_KIOSK);
        Calls.noSuch("areJoined");
        Expect.fails("both the same", Expect.INDEX, () -> new NotaryKiosk().areJoined(6, 6));
        Expect.fails("both below", Expect.INDEX, () -> new NotaryKiosk().areJoined(-1, -1));
    }

    // ---- promises 21 to 24

    private interface Came {
        int in(NotaryKiosk x, int kiosk, int piece);
    }

    /** A ring of five kiosks, cut and joined again while a piece goes round; and one to which nothing comes. */
    private static void comesInItsHours(Came came) {
        NotaryKiosk x = Made.by(Made.inTheHour(3));
        x.join(0, 1);
        x.join(1, 2);
        x.join(2, 3);
        x.join(3, 4);
        x.join(4, 0);
        x.grant(2, 1, 2);
        Expect.is("where it is made, in the hour of making", came.in(x, 2, 0), 3);
        Expect.is("nowhere else at once", came.in(x, 1, 0), -1);
        x.cut(2, 3);
        x.pass(1);
        x.join(2, 3);
        x.cut(0, 1);
        x.pass(2);
        int[] hours = {-1, 4, 3, 5, 6, -1};
        for (int kiosk = 0; kiosk < 6; kiosk++) {
            Expect.is("to " + kiosk, came.in(x, kiosk, 0), hours[kiosk]);
        }
        x.cut(3, 4);
        x.join(0, 1);
        x.pass(50);
        Expect.is("to the last one", came.in(x, 0, 0), 7);
        Expect.is("not once more", came.in(x, 1, 0), 4);
        Expect.is("to one that is never joined", came.in(x, 5, 0), -1);
        x.join(5, 0);
        Expect.is("not ahead of the next hour", came.in(x, 5, 0), -1);
        x.pass(1);
        Expect.is("in the next hour", came.in(x, 5, 0), 57);
    }

    private static void minus1IfNotCome(Came came) {
        NotaryKiosk x = new NotaryKiosk();
        x.grant(0, 1, 2);
        x.pass(50);
        for (int kiosk = 1; kiosk < 6; kiosk++) {
            Expect.is("never, to " + kiosk, came.in(x, kiosk, 0), -1);
        }
        Expect.is("the hour 0 is an hour", came.in(x, 0, 0), 0);
        Made.passTo(x, 399);
        x.join(0, 1);
        x.pass(1);
        Expect.is("the last hour", came.in(x, 1, 0), 400);
        x.grant(5, 1, 2);
        Expect.is("made in the last hour", came.in(x, 5, 1), 400);
        Expect.is("it comes nowhere", came.in(x, 0, 1), -1);
    }

    static void promise21InWhichHour() {
        Document.says(21, "Returns in which hour a piece of news came to a kiosk.");
        comesInItsHours((x, kiosk, piece) -> x.came(kiosk, piece));
    }

    static void promise21Minus1IfNotCome() {
        Document.says(21, NOT_COME);
        minus1IfNotCome((x, kiosk, piece) -> x.came(kiosk, piece));
    }

    static void promise21NoSuchKioskOrPiece() {
        Document.says(21, NO_SUCH_PIECE);
        Calls.noSuch("came");
        noSuchPiece("came", (x, kiosk, piece) -> x.came(kiosk, piece));
    }

    static void promise22TheSameByLinks() {
        Document.says(22, "Returns the same, from which kiosks were joined in which hours.");
        comesInItsHours((x, kiosk, piece) -> x.cameByLinks(kiosk, piece));
        NotaryKiosk x = Made.by(Made::someOfAll);
        for (int piece = 0; piece < 7; piece++) {
            for (int kiosk = 0; kiosk < 6; kiosk++) {
                Expect.is("as came: " + piece + " to " + kiosk, x.cameByLinks(kiosk, piece), x.came(kiosk, piece));
            }
        }
    }

    static void promise22Minus1IfNotCome() {
        Document.says(22, NOT_COME);
        minus1IfNotCome((x, kiosk, piece) -> x.cameByLinks(kiosk, piece));
    }

    static void promise22NoSuchKioskOrPiece() {
        Document.says(22, NO_SUCH_PIECE);
        Calls.noSuch("cameByLinks");
        noSuchPiece("cameByLinks", (x, kiosk, piece) -> x.cameByLinks(kiosk, piece));
    }

    private static void noSuchPiece(String name, Came call) {
        NotaryKiosk none = new NotaryKiosk();
        NotaryKiosk full = Made.by(Made.withNews(160));
        for (int kiosk = 0; kiosk < 6; kiosk++) {
            int at = kiosk;
            Expect.fails(name + " of none", Expect.INDEX, () -> call.in(none, at, 0));
            Expect.passes(name + " of the last one of 160", () -> call.in(full, at, 159));
            Expect.fails(name + " behind 160", Expect.INDEX, () -> call.in(full, at, 160));
        }
    }

    static void promise23WhetherItIsRead() {
        Document.says(23, "Tells whether a piece of news is read at a kiosk.");
        NotaryKiosk x = Made.by(Made::allJoined);
        x.grant(4, 1, 2);
        Expect.is("at once where it is made", x.isRead(4, 0), true);
        Expect.is("not where it has not come", x.isRead(0, 0), false);
        x.pass(1);
        Expect.is("not in the mail", x.isRead(0, 0), false);
        x.read(0);
        Expect.is("read", x.isRead(0, 0), true);
        Expect.is("not read at another one", x.isRead(5, 0), false);
        x.grant(4, 1, 2);
        x.pass(1);
        Expect.is("nor what came behind it", x.isRead(0, 1), false);
    }

    static void promise23NoSuchKioskOrPiece() {
        Document.says(23, NO_SUCH_PIECE);
        Calls.noSuch("isRead");
        noSuchPiece("isRead", (x, kiosk, piece) -> x.isRead(kiosk, piece) ? 1 : 0);
    }

    static void promise24HowManyInTheMail() {
        Document.says(24, "Returns how many pieces of news are in the mail of a kiosk, not read.");
        NotaryKiosk x = Made.by(Made::joinedInARow);
        Expect.is("none", x.mail(1), 0);
        x.grant(1, 1, 2);
        x.grant(1, 1, 2);
        Expect.is("not what is made there", x.mail(1), 0);
        Expect.is("not ahead of the next hour", x.mail(0), 0);
        x.pass(1);
        int[] mail = {2, 0, 2, 0, 0, 0};
        for (int kiosk = 0; kiosk < 6; kiosk++) {
            Expect.is("of " + kiosk, x.mail(kiosk), mail[kiosk]);
        }
        x.read(0);
        Expect.is("read", x.mail(0), 0);
        Expect.is("not read at another one", x.mail(2), 2);
        x.grant(1, 1, 2);
        x.pass(1);
        Expect.is("only what came behind", x.mail(0), 1);
        Expect.is("and what was there", x.mail(2), 3);
    }

    static void promise24As160InTheMail() {
        Document.says(24, "Returns how many pieces of news are in the mail of a kiosk, not read.");
        NotaryKiosk x = Made.by(Made.withNews(160));
        x.join(5, 0);
        x.pass(1);
        Expect.is("as many as there can be", x.mail(5), 160);
    }

    static void promise24NoSuchKiosk() {
        Document.says(24, NO_SUCH_KIOSK);
        Calls.noSuch("mail");
    }

    // ---- promises 25 and 26

    static void promise25TheSource() {
        Document.says(25, "Returns the source of a power.");
        NotaryKiosk x = Made.by(Made::longLine);
        for (int power = 1; power < 4; power++) {
            Expect.is("of " + power, x.source(power), power - 1);
        }
        x.draft(1, 1, 1, 1, 0);
        x.passOn(0, 0, 7);
        Expect.is("the power 0", x.source(4), 0);
    }

    static void promise25Minus1IfGranted() {
        Document.says(25, "Returns the source; -1 if it was granted.");
        NotaryKiosk x = Made.by(Made::longLine);
        x.grant(0, 1, 2);
        x.revoke(0, 1, 0);
        Expect.is("the first one", x.source(0), -1);
        Expect.is("one behind those passed on", x.source(4), -1);
        Expect.is("passed on from one that is revoked", x.source(1), 0);
    }

    static void promise25NoSuchPower() {
        Document.says(25, NO_SUCH_POWER);
        Calls.noSuch("source");
        noSuchPower("source", (x, kiosk, power) -> x.source(power));
    }

    private interface OfPower {
        Object ask(NotaryKiosk x, int kiosk, int power);
    }

    private static void noSuchPower(String name, OfPower call) {
        NotaryKiosk none = new NotaryKiosk();
        NotaryKiosk all = Made.by(Made.withPowers(40));
        for (int kiosk = 0; kiosk < 6; kiosk++) {
            int at = kiosk;
            Expect.fails(name + " of none", Expect.INDEX, () -> call.ask(none, at, 0));
            Expect.passes(name + " of the last one of 40", () -> call.ask(all, at, 39));
            Expect.fails(name + " behind 40", Expect.INDEX, () -> call.ask(all, at, 40));
        }
    }

    static void promise26TheHolder() {
        Document.says(26, "Returns the holder of a power.");
        NotaryKiosk x = Made.by(Made::longLine);
        x.grant(5, 9, 0);
        x.grant(5, 0, 9);
        int[] holders = {2, 3, 4, 5, 0, 9};
        for (int power = 0; power < 6; power++) {
            Expect.is("of " + power, x.holder(power), holders[power]);
        }
    }

    static void promise26NoSuchPower() {
        Document.says(26, NO_SUCH_POWER);
        Calls.noSuch("holder");
        noSuchPower("holder", (x, kiosk, power) -> x.holder(power));
    }

    // ---- promises 27 to 29

    static void promise27Known() {
        Document.says(27, GOOD);
        NotaryKiosk x = Made.by(Made::longLine);
        x.join(0, 1);
        for (int power = 0; power < 4; power++) {
            Expect.is("here", x.isGood(0, power), true);
            Expect.is("not come there", x.isGood(1, power), false);
        }
        x.pass(1);
        Expect.is("not read there", x.isGood(1, 3), false);
        x.read(1);
        Expect.is("read there", x.isGood(1, 3), true);
    }

    static void promise27NotRevoked() {
        Document.says(27, GOOD);
        NotaryKiosk x = Made.by(Made::longLine);
        x.join(0, 1);
        x.pass(1);
        x.read(1);
        x.revoke(0, 2, 1);
        boolean[] good = {true, false, false, false};
        for (int power = 0; power < 4; power++) {
            Expect.is("here, " + power, x.isGood(0, power), good[power]);
            Expect.is("there, not come, " + power, x.isGood(1, power), true);
        }
        x.pass(1);
        Expect.is("there, not read", x.isGood(1, 3), true);
        x.read(1);
        for (int power = 0; power < 4; power++) {
            Expect.is("there, read, " + power, x.isGood(1, power), good[power]);
        }
    }

    /** In the long line the last hours are 40, 30, 20 and 10. */
    static void promise27NotOverNow() {
        Document.says(27, GOOD);
        NotaryKiosk x = Made.by(Made::longLine);
        for (int power = 3; power >= 0; power--) {
            Made.passTo(x, 40 - 10 * power);
            Expect.is("the last hour of " + power, x.isGood(0, power), true);
            x.pass(1);
            Expect.is("the hour behind it", x.isGood(0, power), false);
        }
    }

    static void promise27NoSuchKioskOrPower() {
        Document.says(27, NO_SUCH_POWER_THERE);
        Calls.noSuch("isGood");
        noSuchPower("isGood", (x, kiosk, power) -> x.isGood(kiosk, power));
    }

    /** One act by each power of the long line: of 1, 2, 4 and 8. */
    private static void actsInALine(NotaryKiosk y) {
        Made.longLine(y);
        for (int power = 0; power < 4; power++) {
            y.act(0, power + 2, power, 1 << power);
        }
    }

    static void promise28WhatWasDone() {
        Document.says(28, DONE);
        NotaryKiosk x = Made.by(Made::longLine);
        for (int power = 0; power < 4; power++) {
            Expect.is("nothing", x.done(0, power), 0);
        }
        NotaryKiosk acts = Made.by(SightsSentences::actsInALine);
        int[] done = {15, 14, 12, 8};
        for (int power = 0; power < 4; power++) {
            Expect.is("by it and what was passed on from it, " + power, acts.done(0, power), done[power]);
        }
        Expect.is("as many acts as there can be", Made.by(Made.withNews(160)).done(0, 0), 159);
    }

    static void promise28ByWhatAKioskHasRead() {
        Document.says(28, DONE);
        NotaryKiosk x = Made.by(SightsSentences::actsInALine);
        x.join(0, 1);
        Expect.is("not come", x.done(1, 0), 0);
        x.pass(1);
        Expect.is("in the mail", x.done(1, 0), 0);
        x.read(1);
        Expect.is("read", x.done(1, 0), 15);
        x.act(1, 2, 0, 100);
        Expect.is("done there", x.done(1, 0), 115);
        Expect.is("not come back", x.done(0, 0), 15);
        x.pass(1);
        Expect.is("not read here", x.done(0, 0), 15);
        x.read(0);
        Expect.is("read here", x.done(0, 0), 115);
        x.revoke(0, 1, 0);
        x.pass(50);
        Expect.is("revoked and over, it was done all the same", x.done(0, 0), 115);
    }

    static void promise28NoSuchKioskOrPower() {
        Document.says(28, NO_SUCH_POWER_THERE);
        Calls.noSuch("done");
        noSuchPower("done", (x, kiosk, power) -> x.done(kiosk, power));
    }

    /** A total of 100 that each of the six kiosks has read: the kiosks do the amounts, none knowing of another. */
    private static Consumer<NotaryKiosk> doneApart(int... amounts) {
        return y -> {
            y.draft(63, 100, 100, 50, 0);
            y.grant(0, 1, 2);
            Made.joinedInARow(y);
            Made.passAndReadAll(y);
            for (int kiosk = 0; kiosk < amounts.length; kiosk++) {
                y.act(kiosk, 2, 0, amounts[kiosk]);
            }
        };
    }

    static void promise29AboveItsTotal() {
        Document.says(29, BEYOND);
        Expect.is("by one", Made.by(doneApart(100, 1)).beyond(0), 1);
        Expect.is("by five times the total", Made.by(doneApart(100, 100, 100, 100, 100, 100)).beyond(0), 500);
        NotaryKiosk x = Made.by(doneApart(60, 60));
        Expect.is("by all news, though no kiosk has read all", x.beyond(0), 20);
        Made.passAndReadAll(x);
        Expect.is("the same when all is read", x.beyond(0), 20);
    }

    static void promise29ZeroIfItIsNot() {
        Document.says(29, BEYOND);
        Expect.is("nothing done", Made.by(doneApart()).beyond(0), 0);
        Expect.is("below", Made.by(doneApart(60, 39)).beyond(0), 0);
        Expect.is("the total itself", Made.by(doneApart(60, 40)).beyond(0), 0);
    }

    static void promise29WithWhatWasPassedOn() {
        Document.says(29, BEYOND);
        NotaryKiosk x = new NotaryKiosk();
        x.draft(63, 100, 100, 50, 1);
        x.grant(0, 1, 2);
        x.draft(63, 100, 100, 50, 0);
        x.passOn(0, 0, 3);
        x.passOn(0, 0, 4);
        Made.joinedInARow(x);
        Made.passAndReadAll(x);
        x.act(0, 3, 1, 70);
        x.act(5, 4, 2, 80);
        Expect.is("the source, with both", x.beyond(0), 50);
        Expect.is("the one", x.beyond(1), 0);
        Expect.is("the other", x.beyond(2), 0);
    }

    static void promise29NoSuchPower() {
        Document.says(29, NO_SUCH_POWER);
        Calls.noSuch("beyond");
        noSuchPower("beyond", (x, kiosk, power) -> x.beyond(power));
    }

    // ---- promises 30 and 31

    static void promise30TheReason() {
        Document.says(30, AGAINST);
        NotaryKiosk x = Made.by(Made::onePower);
        Expect.is("known here", x.against(0, 2, 0, 1), 0);
        Expect.is("not there", x.against(1, 2, 0, 1), 1);
        x.join(0, 1);
        x.pass(1);
        Expect.is("not read there", x.against(1, 2, 0, 1), 1);
        x.read(1);
        Expect.is("read there", x.against(1, 2, 0, 1), 0);
        x.revoke(0, 1, 0);
        x.pass(1);
        Expect.is("the revocation is not read there", x.against(1, 2, 0, 1), 0);
        x.read(1);
        Expect.is("it is read", x.against(1, 2, 0, 1), 3);
    }

    static void promise30NowAndAsItIsPrepared() {
        Document.says(30, AGAINST);
        NotaryKiosk x = new NotaryKiosk();
        x.draft(1, 10, 10, 3, 0);
        x.grant(0, 1, 2);
        x.depute(0, 1, 0);
        Expect.is("as it is at first", x.against(0, 2, 0, 1), 0);
        x.prepare(0, 1);
        Expect.is("of another kind", x.against(0, 2, 0, 1), 5);
        x.prepare(1, 0);
        Expect.is("by the deputy", x.against(0, 2, 0, 1), 8);
        x.pass(1);
        Expect.is("by the deputy in an hour of the deputation", x.against(0, 2, 0, 1), 0);
        x.prepare(0, 0);
        Expect.is("by the notary in that hour", x.against(0, 2, 0, 1), 8);
        x.pass(2);
        Expect.is("in the last hour", x.against(0, 2, 0, 1), 0);
        x.pass(1);
        Expect.is("in the hour behind it", x.against(0, 2, 0, 1), 4);
        Expect.is("nothing was made", x.news(), 2);
    }

    static void promise30AmountsFrom1To10000() {
        Document.says(30, AMOUNT);
        NotaryKiosk x = new NotaryKiosk();
        x.grant(0, 1, 2);
        Expect.is("the least", x.against(0, 2, 0, 1), 0);
        Expect.is("the most", x.against(0, 2, 0, 10000), 0);
        Expect.fails("0", Expect.ARGUMENT, () -> x.against(0, 2, 0, 0));
        Expect.fails("10001", Expect.ARGUMENT, () -> x.against(0, 2, 0, 10001));
    }

    static void promise30ZeroForNone() {
        Document.says(30, "Returns the reason; 0 for none.");
        NotaryKiosk x = new NotaryKiosk();
        x.draft(1, 10, 20, 0, 0);
        x.grant(0, 1, 2);
        Expect.is("none", x.against(0, 2, 0, 10), 0);
        x.act(0, 2, 0, 10);
        Expect.is("none still", x.against(0, 2, 0, 10), 0);
        x.act(0, 2, 0, 10);
        Expect.is("seven", x.against(0, 2, 0, 10), 7);
        NotaryKiosk full = Made.by(Made.withNews(160));
        Expect.is("160 pieces of news are no reason", full.against(0, 2, 0, 1), 0);
    }

    static void promise30NoSuchKioskPersonOrPower() {
        Document.says(30, "Throws `IndexOutOfBoundsException` if there is no such kiosk, person or power");
        Calls.noSuch("against");
        noSuchPower("against", (x, kiosk, power) -> x.against(kiosk, 2, power, 1));
    }

    static void promise30TheAmountIsOutOfRange() {
        Document.says(30, AMOUNT_OUT_OF_RANGE);
        Calls.outOfRange("against");
    }

    static void promise31ByHowManyPowers() {
        Document.says(31, CHOICES);
        NotaryKiosk x = Made.by(SightsSentences::fivePowers);
        Expect.is("all that are his", x.choices(0, 2, 10), 4);
        Expect.is("above the limit of one", x.choices(0, 2, 11), 3);
        Expect.is("of another person", x.choices(0, 3, 10), 1);
        Expect.is("of nobody", x.choices(0, 9, 10), 0);
        x.act(0, 2, 1, 15);
        Expect.is("above the total of one", x.choices(0, 2, 6), 3);
        Expect.is("the total itself", x.choices(0, 2, 5), 4);
        x.revoke(0, 1, 2);
        Expect.is("one is revoked", x.choices(0, 2, 1), 3);
        x.pass(3);
        Expect.is("one is over", x.choices(0, 2, 1), 2);
    }

    /** At the kiosk 0 the person 2 has four powers, with a limit of 10, a total of 20, a scope of 0, and 2 hours. */
    private static void fivePowers(NotaryKiosk y) {
        y.draft(63, 10, 1000, 50, 0);
        y.grant(0, 1, 2);
        y.draft(63, 100, 20, 50, 0);
        y.grant(0, 1, 2);
        y.draft(1, 100, 1000, 50, 0);
        y.grant(0, 1, 2);
        y.draft(63, 100, 1000, 2, 0);
        y.grant(0, 1, 2);
        y.grant(0, 1, 3);
    }

    static void promise31AsItIsPrepared() {
        Document.says(31, CHOICES);
        NotaryKiosk x = Made.by(SightsSentences::fivePowers);
        x.prepare(0, 1);
        Expect.is("of another kind", x.choices(0, 2, 1), 3);
        x.prepare(1, 0);
        Expect.is("by the deputy", x.choices(0, 2, 1), 0);
        x.depute(0, 0, 0);
        Expect.is("by the deputy in an hour of the deputation", x.choices(0, 2, 1), 4);
    }

    static void promise31ByWhatAKioskHasRead() {
        Document.says(31, CHOICES);
        NotaryKiosk x = Made.by(SightsSentences::fivePowers);
        x.join(0, 1);
        Expect.is("not come", x.choices(1, 2, 1), 0);
        x.pass(1);
        Expect.is("not read", x.choices(1, 2, 1), 0);
        x.read(1);
        Expect.is("read", x.choices(1, 2, 1), 4);
    }

    static void promise31AmountsFrom1To10000() {
        Document.says(31, AMOUNT);
        NotaryKiosk x = new NotaryKiosk();
        x.grant(0, 1, 2);
        Expect.is("the least", x.choices(0, 2, 1), 1);
        Expect.is("the most", x.choices(0, 2, 10000), 1);
        Expect.fails("0", Expect.ARGUMENT, () -> x.choices(0, 2, 0));
        Expect.fails("10001", Expect.ARGUMENT, () -> x.choices(0, 2, 10001));
    }

    static void promise31HowMany() {
        Document.says(31, "Returns how many.");
        Expect.is("no powers", new NotaryKiosk().choices(0, 2, 1), 0);
        NotaryKiosk x = Made.by(y -> {
            for (int power = 0; power < 40; power++) {
                y.grant(0, 1, 2);
            }
        });
        Expect.is("as many as there can be", x.choices(0, 2, 1), 40);
        Expect.is("none where none came", x.choices(1, 2, 1), 0);
    }

    static void promise31NoSuchKioskOrPerson() {
        Document.says(31, "Throws `IndexOutOfBoundsException` if there is no such kiosk or person");
        Calls.noSuch("choices");
    }

    static void promise31TheAmountIsOutOfRange() {
        Document.says(31, AMOUNT_OUT_OF_RANGE);
        Calls.outOfRange("choices");
        Expect.fails("though there are no powers", Expect.ARGUMENT, () -> new NotaryKiosk().choices(0, 0, 0));
    }

    private SightsSentences() {
    }
}
