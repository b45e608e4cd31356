/** Promises 11 to 13, 19 and 32 to 38: acts, whether they stand, and chains of seals. */
public final class ActsTest {

    public static void main(String[] args) {
        promise11Prepare();
        promise12Act();
        promise12Refused();
        promise12WhatTheKioskHasRead();
        promise12Limits();
        promise13Tamper();
        promise19Records();
        promise32StandsAgainstARevocation();
        promise32StandsByTotals();
        promise32StandsByDeputies();
        promise32OrderWithinAnHour();
        promise33Fault();
        promise33WhatWasNotThere();
        promise33ByTheAmountItWasMadeWith();
        promise34Standing();
        promise35PieceOf();
        promise36Part();
        promise37Seal();
        promise38Broken();
        Expect.end("ActsTest");
    }

    private static void promise11Prepare() {
        NotaryKiosk x = new NotaryKiosk();
        x.draft(33, 100, 1000, 50, 0);
        x.grant(0, 1, 2);
        x.act(0, 2, 0, 1);
        Expect.is("11 kind 0 at first", x.part(0, 0, 2), 0);
        Expect.is("11 the notary at first", x.part(0, 0, 4), 0);
        x.prepare(0, 5);
        x.act(0, 2, 0, 1);
        x.act(0, 2, 0, 1);
        Expect.is("11 the next act", x.part(0, 1, 2), 5);
        Expect.is("11 and the one behind it", x.part(0, 2, 2), 5);
        x.depute(0, 0, 0);
        x.prepare(1, 0);
        x.act(0, 2, 0, 1);
        Expect.is("11 the deputy", x.part(0, 3, 4), 1);
        Expect.is("11 of the kind 0 again", x.part(0, 3, 2), 0);
        int[][] wrong = {{-1, 0}, {2, 0}, {0, -1}, {0, 6}, {2, 6}};
        for (int[] row : wrong) {
            Expect.changesNothing("11 out of range", Expect.ARGUMENT, ActsTest::prepareTheOther,
                    y -> y.prepare(row[0], row[1]));
        }
    }

    private static void prepareTheOther(NotaryKiosk y) {
        y.prepare(1, 3);
        y.grant(2, 1, 9);
    }

    private static void promise12Act() {
        NotaryKiosk x = new NotaryKiosk();
        x.draft(63, 10000, 20002, 50, 0);
        x.grant(0, 1, 2);
        x.grant(3, 1, 4);
        Expect.is("12 first", x.act(0, 2, 0, 1), 0);
        Expect.is("12 second", x.act(0, 2, 0, 10000), 1);
        Expect.is("12 first of another kiosk", x.act(3, 4, 1, 5), 0);
        Expect.is("12 third", x.act(0, 2, 0, 10000), 2);
        Expect.is("12 is news", x.news(), 6);
        Expect.is("12 is read there", x.isRead(0, 5), true);
        Expect.is("12 came there", x.came(0, 5), 0);
        Expect.is("12 not elsewhere", x.came(3, 5), -1);
        Expect.is("12 the total itself", x.act(0, 2, 0, 1), 3);
        Expect.fails("12 above the total", Expect.STATE, () -> x.act(0, 2, 0, 1));
    }

    private static void promise12Refused() {
        NotaryKiosk x = new NotaryKiosk();
        x.grant(0, 1, 2);
        Expect.fails("12 kiosk", Expect.INDEX, () -> x.act(6, 2, 0, 1));
        Expect.fails("12 kiosk below", Expect.INDEX, () -> x.act(-1, 2, 0, 1));
        Expect.fails("12 person", Expect.INDEX, () -> x.act(0, 10, 0, 1));
        Expect.fails("12 person below", Expect.INDEX, () -> x.act(0, -1, 0, 1));
        Expect.fails("12 power", Expect.INDEX, () -> x.act(0, 2, 1, 1));
        Expect.fails("12 power below", Expect.INDEX, () -> x.act(0, 2, -1, 1));
        Expect.fails("12 amount", Expect.ARGUMENT, () -> x.act(0, 2, 0, 0));
        Expect.fails("12 amount above", Expect.ARGUMENT, () -> x.act(0, 2, 0, 10001));
        Expect.fails("12 index ahead of argument", Expect.INDEX, () -> x.act(0, 2, 1, 0));
        Expect.fails("12 argument ahead of state", Expect.ARGUMENT, () -> x.act(1, 3, 0, 0));
        Expect.fails("12 reason 1", Expect.STATE, () -> x.act(1, 2, 0, 1));
        Expect.fails("12 reason 2", Expect.STATE, () -> x.act(0, 1, 0, 1));
        Expect.is("12 none is made", x.records(0), 0);
        int[][] drafts = {{2, 50, 60, 9, 0}, {1, 9, 60, 9, 0}, {1, 50, 9, 9, 0}};
        for (int[] row : drafts) {
            Expect.changesNothing("12 reasons 5 to 7", Expect.STATE, y -> grantAs(y, row), y -> y.act(2, 9, 0, 10));
        }
        Expect.changesNothing("12 reason 3", Expect.STATE, ActsTest::grantAndRevoke, y -> y.act(2, 9, 0, 10));
        Expect.changesNothing("12 reason 4", Expect.STATE, ActsTest::grantAndPass, y -> y.act(2, 9, 0, 10));
        Expect.changesNothing("12 reason 8", Expect.STATE, ActsTest::prepareTheOther, y -> y.act(2, 9, 0, 10));
    }

    private static void grantAs(NotaryKiosk y, int[] row) {
        y.draft(row[0], row[1], row[2], row[3], row[4]);
        y.grant(2, 1, 9);
    }

    private static void grantAndRevoke(NotaryKiosk y) {
        y.grant(2, 1, 9);
        y.revoke(2, 1, 0);
    }

    private static void grantAndPass(NotaryKiosk y) {
        y.draft(63, 100, 100, 0, 0);
        y.grant(2, 1, 9);
        y.pass(1);
    }

    private static void promise12WhatTheKioskHasRead() {
        NotaryKiosk x = new NotaryKiosk();
        x.join(0, 1);
        x.grant(0, 1, 2);
        x.pass(1);
        Expect.fails("12 not read", Expect.STATE, () -> x.act(1, 2, 0, 1));
        x.read(1);
        Expect.is("12 read", x.act(1, 2, 0, 1), 0);
        x.revoke(0, 1, 0);
        x.pass(1);
        Expect.is("12 the revocation is not read", x.act(1, 2, 0, 1), 1);
        x.read(1);
        Expect.fails("12 the revocation is read", Expect.STATE, () -> x.act(1, 2, 0, 1));
    }

    private static void promise12Limits() {
        NotaryKiosk x = new NotaryKiosk();
        x.grant(5, 1, 2);
        for (int record = 0; record < 159; record++) {
            Expect.is("12 up to 160", x.act(5, 2, 0, 1), record);
        }
        Expect.fails("12 160 pieces", Expect.STATE, () -> x.act(5, 2, 0, 1));
        Expect.fails("12 argument ahead of 160", Expect.ARGUMENT, () -> x.act(5, 2, 0, 0));
        Expect.is("12 still 160", x.news(), 160);
        Expect.is("12 still 159 records", x.records(5), 159);
        Expect.is("12 all stand", x.standing(), 159);
        Expect.is("12 the last one has no fault", x.fault(5, 158), 0);
        Expect.is("12 none is broken", x.broken(5), -1);
        x.join(5, 0);
        Expect.is("12 all of it comes", x.pass(1), 160);
        Expect.is("12 all of it is in the mail", x.mail(0), 160);
        Expect.is("12 and is read", x.read(0), 160);
        Expect.is("12 all of it is done", x.done(0, 0), 159);
    }

    private static void promise13Tamper() {
        NotaryKiosk x = new NotaryKiosk();
        x.grant(0, 1, 2);
        x.act(0, 2, 0, 10);
        x.act(0, 2, 0, 20);
        int seal = x.seal(0, 1);
        Expect.is("13 the amount before", x.tamper(0, 1, 10000), 20);
        Expect.is("13 the part", x.part(0, 1, 3), 10000);
        Expect.is("13 the other record", x.part(0, 0, 3), 10);
        Expect.is("13 the seal stays", x.seal(0, 1), seal);
        Expect.is("13 what was done stays", x.done(0, 0), 30);
        Expect.is("13 the amount before, again", x.tamper(0, 1, 1), 10000);
        Expect.is("13 no news", x.news(), 3);
        Expect.fails("13 kiosk", Expect.INDEX, () -> x.tamper(6, 0, 1));
        Expect.fails("13 kiosk below", Expect.INDEX, () -> x.tamper(-1, 0, 1));
        Expect.fails("13 record", Expect.INDEX, () -> x.tamper(0, 2, 1));
        Expect.fails("13 record below", Expect.INDEX, () -> x.tamper(0, -1, 1));
        Expect.fails("13 record of another kiosk", Expect.INDEX, () -> x.tamper(1, 0, 1));
        Expect.fails("13 amount", Expect.ARGUMENT, () -> x.tamper(0, 0, 0));
        Expect.fails("13 amount above", Expect.ARGUMENT, () -> x.tamper(0, 0, 10001));
        Expect.fails("13 index ahead of argument", Expect.INDEX, () -> x.tamper(0, 2, 0));
        Expect.changesNothing("13 amount", Expect.ARGUMENT, ActsTest::actTwice, y -> y.tamper(2, 1, 0));
    }

    private static void actTwice(NotaryKiosk y) {
        y.grant(2, 1, 9);
        y.act(2, 9, 0, 10);
        y.act(2, 9, 0, 20);
    }

    private static void promise19Records() {
        NotaryKiosk x = new NotaryKiosk();
        actTwice(x);
        x.grant(0, 1, 2);
        x.act(0, 2, 1, 1);
        int[] records = {1, 0, 2, 0, 0, 0};
        for (int kiosk = 0; kiosk < 6; kiosk++) {
            Expect.is("19 of " + kiosk, x.records(kiosk), records[kiosk]);
        }
        Expect.fails("19 above", Expect.INDEX, () -> x.records(6));
        Expect.fails("19 below", Expect.INDEX, () -> x.records(-1));
    }

    private static void promise32StandsAgainstARevocation() {
        NotaryKiosk x = revokedInTheMail();
        Expect.is("32 ahead of the revocation", x.stands(1, 0), true);
        Expect.is("32 revoked, but not come there", x.stands(1, 1), true);
        Expect.is("32 the revocation lies in the mail", x.stands(1, 2), false);
        x.read(1);
        x.pass(5);
        Expect.is("32 kept", x.stands(1, 1), true);
        Expect.is("32 kept, too", x.stands(1, 2), false);
        Expect.fails("32 kiosk", Expect.INDEX, () -> x.stands(6, 0));
        Expect.fails("32 kiosk below", Expect.INDEX, () -> x.stands(-1, 0));
        Expect.fails("32 record", Expect.INDEX, () -> x.stands(1, 3));
        Expect.fails("32 record below", Expect.INDEX, () -> x.stands(1, -1));
        Expect.fails("32 record of another kiosk", Expect.INDEX, () -> x.stands(0, 0));
    }

    /** Three acts at the kiosk 1: ahead of a revocation, before it came, and when it lay in the mail. */
    private static NotaryKiosk revokedInTheMail() {
        NotaryKiosk x = new NotaryKiosk();
        x.join(0, 1);
        x.grant(0, 1, 2);
        x.pass(1);
        x.read(1);
        x.act(1, 2, 0, 1);
        x.revoke(0, 1, 0);
        x.act(1, 2, 0, 1);
        x.pass(1);
        x.act(1, 2, 0, 1);
        return x;
    }

    private static void promise32StandsByTotals() {
        NotaryKiosk x = doneElsewhere();
        Expect.is("32 within the total by the mail", x.stands(1, 0), true);
        Expect.is("32 above the total by the mail", x.stands(1, 1), false);
        Expect.is("33 above the total by the mail", x.fault(1, 1), 7);
        Expect.is("33 within the total by the mail", x.fault(1, 0), 0);
        x.pass(3);
        Expect.is("33 what came later does not count", x.fault(0, 0), 0);
        Expect.is("32 what came later does not count", x.stands(0, 0), true);
    }

    /** A total of 100: 60 are done at the kiosk 0; of this the kiosk 1 has unread mail, and does 40 and 1. */
    private static NotaryKiosk doneElsewhere() {
        NotaryKiosk x = new NotaryKiosk();
        x.draft(63, 60, 100, 50, 0);
        x.join(0, 1);
        x.grant(0, 1, 2);
        x.pass(1);
        x.read(1);
        x.act(0, 2, 0, 60);
        x.pass(1);
        x.act(1, 2, 0, 40);
        x.act(1, 2, 0, 1);
        return x;
    }

    private static void promise32StandsByDeputies() {
        NotaryKiosk x = deputedInTheMail();
        Expect.is("32 before the deputation came", x.stands(1, 0), true);
        Expect.is("32 the deputation lies in the mail", x.stands(1, 1), false);
        Expect.is("33 the deputation lies in the mail", x.fault(1, 1), 8);
        Expect.is("32 by the deputy", x.stands(1, 2), true);
        Expect.is("33 before the deputation came", x.fault(1, 0), 0);
    }

    /** Three acts at the kiosk 1: by the notary before and when a deputation lay in the mail, and by the deputy. */
    private static NotaryKiosk deputedInTheMail() {
        NotaryKiosk x = new NotaryKiosk();
        x.join(0, 1);
        x.grant(1, 1, 2);
        x.depute(1, 0, 100);
        x.act(1, 2, 0, 1);
        x.pass(1);
        x.act(1, 2, 0, 1);
        x.read(1);
        x.prepare(1, 0);
        x.act(1, 2, 0, 1);
        return x;
    }

    private static void promise32OrderWithinAnHour() {
        NotaryKiosk x = new NotaryKiosk();
        x.draft(63, 10, 10, 50, 0);
        x.grant(0, 1, 2);
        x.act(0, 2, 0, 10);
        x.revoke(0, 1, 0);
        Expect.is("32 what was made there later does not count", x.stands(0, 0), true);
        Expect.is("33 what was made there later does not count", x.fault(0, 0), 0);
        x.join(0, 1);
        x.grant(1, 1, 2);
        x.act(1, 2, 1, 10);
        x.pass(1);
        Expect.is("33 what came in a later hour does not count", x.fault(1, 0), 0);
        x.depute(0, 0, 0);
        x.grant(0, 1, 3);
        x.prepare(1, 0);
        x.act(0, 3, 2, 1);
        Expect.is("33 what was made there ahead of it counts", x.fault(0, 1), 0);
    }

    private static void promise33Fault() {
        NotaryKiosk x = revokedInTheMail();
        Expect.is("33 stands", x.fault(1, 0), 0);
        Expect.is("33 not come there", x.fault(1, 1), 0);
        Expect.is("33 lay in the mail", x.fault(1, 2), 3);
        x.read(1);
        x.pass(50);
        Expect.is("33 what is read later is all the same", x.fault(1, 2), 3);
        Expect.is("33 hours later are all the same", x.fault(1, 1), 0);
        Expect.fails("33 kiosk", Expect.INDEX, () -> x.fault(6, 0));
        Expect.fails("33 kiosk below", Expect.INDEX, () -> x.fault(-1, 0));
        Expect.fails("33 record", Expect.INDEX, () -> x.fault(1, 3));
        Expect.fails("33 record below", Expect.INDEX, () -> x.fault(1, -1));
        Expect.fails("33 record of another kiosk", Expect.INDEX, () -> x.fault(0, 0));
    }

    private static void promise33WhatWasNotThere() {
        NotaryKiosk x = new NotaryKiosk();
        x.join(0, 1);
        x.depute(1, 0, 100);
        x.grant(1, 1, 2);
        x.act(1, 2, 0, 1);
        x.pass(1);
        x.read(1);
        Expect.is("28 the deputation is read, no act is lost", x.done(1, 0), 1);
        Expect.is("29 nor by all news", x.beyond(0), 0);
        Expect.is("33 the deputation had not come", x.fault(1, 0), 0);
        Expect.is("30 the deputation is read", x.against(1, 2, 0, 1), 8);
        Expect.is("33 it had not come, all the same", x.fault(1, 0), 0);
    }

    private static void promise33ByTheAmountItWasMadeWith() {
        NotaryKiosk x = doneElsewhere();
        x.tamper(0, 0, 1);
        Expect.is("33 what was done stays", x.fault(1, 1), 7);
        x.tamper(1, 0, 10000);
        x.tamper(1, 1, 10000);
        Expect.is("33 its own amount stays", x.fault(1, 0), 0);
        Expect.is("33 its own fault stays", x.fault(1, 1), 7);
        Expect.is("32 tampering is no reason", x.stands(1, 0), true);
    }

    private static void promise34Standing() {
        NotaryKiosk x = revokedInTheMail();
        Expect.is("34 two of three", x.standing(), 2);
        x.grant(0, 1, 2);
        x.act(0, 2, 1, 1);
        Expect.is("34 at all kiosks", x.standing(), 3);
        x.revoke(0, 1, 1);
        x.tamper(0, 0, 5);
        x.pass(10);
        Expect.is("34 for good", x.standing(), 3);
        Expect.is("34 with totals", doneElsewhere().standing(), 2);
        Expect.is("34 with deputies", deputedInTheMail().standing(), 2);
    }

    private static void promise35PieceOf() {
        NotaryKiosk x = new NotaryKiosk();
        x.grant(2, 1, 9);
        x.act(2, 9, 0, 10);
        x.grant(4, 1, 2);
        x.act(4, 2, 1, 1);
        x.act(2, 9, 0, 20);
        Expect.is("35 first", x.pieceOf(2, 0), 1);
        Expect.is("35 second", x.pieceOf(2, 1), 4);
        Expect.is("35 of another kiosk", x.pieceOf(4, 0), 3);
        Expect.fails("35 kiosk", Expect.INDEX, () -> x.pieceOf(6, 0));
        Expect.fails("35 kiosk below", Expect.INDEX, () -> x.pieceOf(-1, 0));
        Expect.fails("35 record", Expect.INDEX, () -> x.pieceOf(2, 2));
        Expect.fails("35 record below", Expect.INDEX, () -> x.pieceOf(2, -1));
    }

    private static void promise36Part() {
        NotaryKiosk x = threeSealed();
        int[][] parts = {{2, 0, 3, 77, 0, 6}, {2, 1, 5, 10000, 1, 9}, {9, 2, 0, 1, 1, 9}};
        for (int record = 0; record < 3; record++) {
            for (int part = 0; part < 6; part++) {
                Expect.is("36 part " + part + " of " + record, x.part(4, record, part), parts[record][part]);
            }
        }
        x.tamper(4, 1, 3);
        Expect.is("36 as it is now", x.part(4, 1, 3), 3);
        Expect.fails("36 kiosk", Expect.INDEX, () -> x.part(6, 0, 0));
        Expect.fails("36 kiosk below", Expect.INDEX, () -> x.part(-1, 0, 0));
        Expect.fails("36 record", Expect.INDEX, () -> x.part(4, 3, 0));
        Expect.fails("36 record below", Expect.INDEX, () -> x.part(4, -1, 0));
        Expect.fails("36 part", Expect.INDEX, () -> x.part(4, 0, 6));
        Expect.fails("36 part below", Expect.INDEX, () -> x.part(4, 0, -1));
    }

    private static NotaryKiosk threeSealed() {
        NotaryKiosk x = new NotaryKiosk();
        x.join(0, 4);
        x.pass(6);
        x.grant(4, 1, 2);
        x.grant(4, 3, 2);
        x.grant(4, 1, 9);
        x.prepare(0, 3);
        x.act(4, 2, 0, 77);
        x.depute(4, 3, 0);
        x.pass(3);
        x.read(4);
        x.prepare(1, 5);
        x.act(4, 2, 1, 10000);
        x.prepare(1, 0);
        x.act(4, 9, 2, 1);
        return x;
    }

    private static void promise37Seal() {
        NotaryKiosk x = threeSealed();
        // Worked out of the document's words by another program.
        int[] seals = {423699, 995967, 390482};
        for (int record = 0; record < 3; record++) {
            Expect.is("37 the seal of " + record, x.seal(4, record), seals[record]);
        }
        x.tamper(4, 1, 9999);
        Expect.is("37 kept", x.seal(4, 1), seals[1]);
        x.tamper(4, 2, 9999);
        x.act(4, 9, 2, 1);
        Expect.is("37 of the seal that is kept", x.seal(4, 3), sealByTheDocument(x, 3, seals[2]));
        Expect.fails("37 kiosk", Expect.INDEX, () -> x.seal(6, 0));
        Expect.fails("37 kiosk below", Expect.INDEX, () -> x.seal(-1, 0));
        Expect.fails("37 record", Expect.INDEX, () -> x.seal(4, 4));
        Expect.fails("37 record below", Expect.INDEX, () -> x.seal(4, -1));
    }

    private static int sealByTheDocument(NotaryKiosk x, int record, int ahead) {
        long mark = 1;
        for (int part = 0; part < 6; part++) {
            long salt = 7919L * 4 + 613L * record + 97L * part;
            mark = twoSealed(mark, twoSealed(salt, x.part(4, record, part)));
        }
        return (int) twoSealed(ahead, mark);
    }

    private static long twoSealed(long a, long b) {
        return (131 * a + 17 * b + 7) % 1000003L;
    }

    private static void promise38Broken() {
        NotaryKiosk x = new NotaryKiosk();
        Expect.is("38 no records", x.broken(2), -1);
        actTwice(x);
        x.act(2, 9, 0, 30);
        Expect.is("38 none", x.broken(2), -1);
        x.tamper(2, 2, 31);
        Expect.is("38 the last one", x.broken(2), 2);
        x.tamper(2, 1, 1);
        Expect.is("38 the first of two", x.broken(2), 1);
        x.tamper(2, 2, 30);
        Expect.is("38 the one behind it is whole", x.broken(2), 1);
        x.tamper(2, 0, 11);
        Expect.is("38 the record 0", x.broken(2), 0);
        x.tamper(2, 0, 10);
        x.tamper(2, 1, 20);
        Expect.is("38 mended", x.broken(2), -1);
        x.tamper(2, 1, 19);
        x.act(2, 9, 0, 5);
        Expect.is("38 acts behind it", x.broken(2), 1);
        Expect.is("38 another kiosk", x.broken(3), -1);
        Expect.fails("38 above", Expect.INDEX, () -> x.broken(6));
        Expect.fails("38 below", Expect.INDEX, () -> x.broken(-1));
    }

    private ActsTest() {
    }
}
