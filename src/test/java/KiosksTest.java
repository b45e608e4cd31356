/** Promises 1 to 5, 16, 17 and 20 to 24: kiosks, hours, mail. */
public final class KiosksTest {

    public static void main(String[] args) {
        promise1NewObject();
        promise2Join();
        promise3Cut();
        promise4Pass();
        promise4LimitsOfPass();
        promise5Read();
        promise16Hour();
        promise17News();
        promise20AreJoined();
        promise21Came();
        promise21CameThroughAllKiosks();
        promise22CameByLinks();
        promise23IsRead();
        promise24Mail();
        Expect.end("KiosksTest");
    }

    private static void promise1NewObject() {
        NotaryKiosk x = new NotaryKiosk();
        Expect.is("1 hour", x.hour(), 0);
        Expect.is("1 news", x.news(), 0);
        Expect.is("1 powers", x.powers(), 0);
        Expect.is("1 standing", x.standing(), 0);
        for (int kiosk = 0; kiosk < 6; kiosk++) {
            Expect.is("1 records", x.records(kiosk), 0);
            Expect.is("1 mail", x.mail(kiosk), 0);
            Expect.is("1 broken", x.broken(kiosk), -1);
            for (int other = 0; other < 6; other++) {
                Expect.is("1 areJoined", x.areJoined(kiosk, other), false);
            }
        }
        Expect.fails("1 no copy", Expect.INDEX, () -> x.size(0));
        promise1FirstDraft();
    }

    private static void promise1FirstDraft() {
        NotaryKiosk x = new NotaryKiosk();
        x.grant(0, 1, 2);
        for (int kind = 0; kind < 6; kind++) {
            x.prepare(0, kind);
            Expect.is("1 kind " + kind, x.against(0, 2, 0, 10000), 0);
        }
        x.draft(1, 1, 1, 0, 0);
        Expect.fails("1 depth 0", Expect.ARGUMENT, () -> x.passOn(0, 0, 3));
        for (int made = 0; made < 10; made++) {
            x.act(0, 2, 0, 10000);
        }
        Expect.is("1 total 100000 used up", x.against(0, 2, 0, 1), 7);
        x.pass(50);
        x.pass(50);
        Expect.is("1 good in the hour 100", x.isGood(0, 0), true);
        x.pass(1);
        Expect.is("1 over in the hour 101", x.isGood(0, 0), false);
    }

    private static void promise2Join() {
        NotaryKiosk x = new NotaryKiosk();
        Expect.is("2 first", x.join(2, 5), 1);
        Expect.is("2 second", x.join(2, 0), 2);
        Expect.is("2 the first one counts", x.join(1, 2), 1);
        Expect.is("2 third", x.join(2, 3), 4);
        Expect.is("2 fifth", x.join(2, 4), 5);
        Expect.fails("2 joined", Expect.STATE, () -> x.join(2, 5));
        Expect.fails("2 joined the other way", Expect.STATE, () -> x.join(5, 2));
        Expect.fails("2 same", Expect.ARGUMENT, () -> x.join(3, 3));
        Expect.fails("2 below", Expect.INDEX, () -> x.join(-1, 3));
        Expect.fails("2 above", Expect.INDEX, () -> x.join(3, 6));
        Expect.fails("2 index ahead of argument", Expect.INDEX, () -> x.join(6, 6));
        Expect.fails("2 lowest", Expect.INDEX, () -> x.join(Integer.MIN_VALUE, 0));
        Expect.changesNothing("2 joined", Expect.STATE, y -> y.join(0, 1), y -> y.join(1, 0));
    }

    private static void promise3Cut() {
        NotaryKiosk x = new NotaryKiosk();
        x.join(0, 1);
        x.join(0, 2);
        x.join(0, 3);
        Expect.is("3 the first one counts", x.cut(1, 0), 0);
        Expect.is("3 cut", x.cut(0, 2), 1);
        Expect.is("3 both ways", x.areJoined(2, 0), false);
        Expect.is("3 the other stays", x.areJoined(3, 0), true);
        Expect.fails("3 not joined", Expect.STATE, () -> x.cut(0, 2));
        Expect.fails("3 never joined", Expect.STATE, () -> x.cut(4, 5));
        Expect.fails("3 same", Expect.ARGUMENT, () -> x.cut(0, 0));
        Expect.fails("3 below", Expect.INDEX, () -> x.cut(0, -1));
        Expect.fails("3 above", Expect.INDEX, () -> x.cut(6, 0));
        Expect.fails("3 index ahead of argument", Expect.INDEX, () -> x.cut(-1, -1));
        Expect.changesNothing("3 not joined", Expect.STATE, y -> y.join(0, 1), y -> y.cut(0, 2));
        Expect.is("3 joined again", x.join(1, 0), 1);
    }

    private static void promise4Pass() {
        NotaryKiosk x = new NotaryKiosk();
        Expect.is("4 nothing to come", x.pass(3), 0);
        x.join(0, 1);
        x.join(1, 2);
        x.join(2, 0);
        x.join(2, 3);
        x.grant(0, 1, 2);
        x.grant(3, 1, 2);
        Expect.is("4 one link an hour", x.pass(1), 3);
        Expect.is("4 not there twice", x.pass(1), 3);
        Expect.is("4 all is everywhere", x.pass(10), 0);
        x.grant(1, 1, 2);
        Expect.is("4 all hours together", x.pass(2), 3);
        x.cut(2, 3);
        x.grant(1, 1, 2);
        Expect.is("4 cut off", x.pass(50), 2);
        x.join(3, 0);
        Expect.is("4 what had come goes on", x.pass(1), 1);
        x.join(3, 4);
        x.join(4, 5);
        Expect.is("4 from hour to hour", x.pass(2), 8);
    }

    private static void promise4LimitsOfPass() {
        NotaryKiosk x = new NotaryKiosk();
        Expect.fails("4 no hours", Expect.ARGUMENT, () -> x.pass(0));
        Expect.fails("4 below", Expect.ARGUMENT, () -> x.pass(-5));
        Expect.fails("4 above", Expect.ARGUMENT, () -> x.pass(51));
        Expect.fails("4 highest", Expect.ARGUMENT, () -> x.pass(Integer.MAX_VALUE));
        for (int hours = 0; hours < 350; hours += 50) {
            x.pass(50);
        }
        x.pass(49);
        Expect.fails("4 above 400", Expect.STATE, () -> x.pass(2));
        Expect.fails("4 argument ahead of state", Expect.ARGUMENT, () -> x.pass(51));
        Expect.is("4 not changed", x.hour(), 399);
        x.join(0, 1);
        x.grant(0, 1, 2);
        Expect.is("4 to 400", x.pass(1), 1);
        Expect.is("4 is 400", x.hour(), 400);
        Expect.is("4 came in 400", x.came(1, 0), 400);
        Expect.is("4 came by links in 400", x.cameByLinks(1, 0), 400);
        Expect.fails("4 no more", Expect.STATE, () -> x.pass(1));
        Expect.changesNothing("4 above 400", Expect.STATE, KiosksTest::passTo380, y -> y.pass(21));
    }

    private static void passTo380(NotaryKiosk y) {
        y.pass(30);
        for (int hours = 0; hours < 350; hours += 50) {
            y.pass(50);
        }
        y.join(0, 1);
        y.grant(0, 1, 2);
    }

    private static void promise5Read() {
        NotaryKiosk x = new NotaryKiosk();
        x.join(0, 1);
        x.grant(0, 1, 2);
        x.grant(0, 1, 3);
        x.grant(1, 1, 4);
        Expect.is("5 own is read at once", x.read(0), 0);
        x.pass(1);
        Expect.is("5 two came", x.read(1), 2);
        Expect.is("5 not twice", x.read(1), 0);
        Expect.is("5 one came", x.read(0), 1);
        Expect.is("5 nothing came", x.read(5), 0);
        Expect.is("5 known then", x.isGood(1, 0), true);
        Expect.fails("5 above", Expect.INDEX, () -> x.read(6));
        Expect.fails("5 below", Expect.INDEX, () -> x.read(-1));
    }

    private static void promise16Hour() {
        NotaryKiosk x = new NotaryKiosk();
        x.pass(1);
        Expect.is("16 one", x.hour(), 1);
        x.pass(50);
        Expect.is("16 more", x.hour(), 51);
        x.grant(0, 1, 2);
        x.act(0, 2, 0, 1);
        Expect.is("16 acts take no hour", x.hour(), 51);
    }

    private static void promise17News() {
        NotaryKiosk x = new NotaryKiosk();
        x.draft(63, 100, 100, 10, 1);
        x.grant(0, 1, 2);
        Expect.is("17 a power", x.news(), 1);
        x.draft(63, 100, 100, 10, 0);
        x.passOn(0, 0, 3);
        Expect.is("17 a power that is passed on", x.news(), 2);
        x.depute(1, 0, 0);
        Expect.is("17 a deputation", x.news(), 3);
        x.act(0, 2, 0, 1);
        Expect.is("17 an act", x.news(), 4);
        x.revoke(0, 1, 0);
        Expect.is("17 a revocation", x.news(), 5);
        x.join(0, 1);
        x.pass(1);
        x.read(1);
        x.tamper(0, 0, 2);
        x.copy(0, 0, 0, 0);
        Expect.is("17 nothing else", x.news(), 5);
    }

    private static void promise20AreJoined() {
        NotaryKiosk x = new NotaryKiosk();
        x.join(4, 1);
        Expect.is("20 joined", x.areJoined(4, 1), true);
        Expect.is("20 the other way", x.areJoined(1, 4), true);
        Expect.is("20 not joined", x.areJoined(4, 2), false);
        Expect.is("20 one and the same", x.areJoined(4, 4), false);
        x.cut(1, 4);
        Expect.is("20 cut", x.areJoined(4, 1), false);
        Expect.fails("20 first", Expect.INDEX, () -> x.areJoined(6, 1));
        Expect.fails("20 second", Expect.INDEX, () -> x.areJoined(1, -1));
        Expect.fails("20 no such one twice", Expect.INDEX, () -> x.areJoined(6, 6));
    }

    private static void promise21Came() {
        NotaryKiosk x = new NotaryKiosk();
        x.pass(7);
        x.grant(2, 1, 2);
        Expect.is("21 where it was made", x.came(2, 0), 7);
        Expect.is("21 not yet", x.came(3, 0), -1);
        x.join(2, 3);
        Expect.is("21 joined is not come", x.came(3, 0), -1);
        x.pass(2);
        Expect.is("21 in the first hour", x.came(3, 0), 8);
        x.cut(2, 3);
        x.join(3, 4);
        x.pass(1);
        Expect.is("21 goes on from where it came", x.came(4, 0), 10);
        Expect.is("21 never came", x.came(0, 0), -1);
        x.join(4, 2);
        x.pass(5);
        Expect.is("21 not once more", x.came(2, 0), 7);
        Expect.fails("21 kiosk", Expect.INDEX, () -> x.came(6, 0));
        Expect.fails("21 piece", Expect.INDEX, () -> x.came(0, 1));
        Expect.fails("21 piece below", Expect.INDEX, () -> x.came(0, -1));
    }

    private static void promise21CameThroughAllKiosks() {
        NotaryKiosk x = new NotaryKiosk();
        for (int kiosk = 5; kiosk > 0; kiosk--) {
            x.join(kiosk, kiosk - 1);
        }
        x.grant(5, 1, 2);
        x.grant(0, 1, 2);
        Expect.is("21 the whole way", x.pass(5), 10);
        for (int kiosk = 0; kiosk < 6; kiosk++) {
            Expect.is("21 down to " + kiosk, x.came(kiosk, 0), 5 - kiosk);
            Expect.is("21 up to " + kiosk, x.came(kiosk, 1), kiosk);
            Expect.is("22 down to " + kiosk, x.cameByLinks(kiosk, 0), 5 - kiosk);
            Expect.is("22 up to " + kiosk, x.cameByLinks(kiosk, 1), kiosk);
        }
    }

    private static void promise22CameByLinks() {
        NotaryKiosk x = new NotaryKiosk();
        x.join(0, 1);
        x.pass(3);
        x.cut(0, 1);
        x.grant(0, 1, 2);
        x.pass(2);
        Expect.is("22 joined ahead of it only", x.cameByLinks(1, 0), -1);
        Expect.is("22 where it was made", x.cameByLinks(0, 0), 3);
        x.join(1, 2);
        x.pass(1);
        x.join(0, 1);
        x.cut(1, 2);
        x.pass(1);
        Expect.is("22 in the new hour", x.cameByLinks(1, 0), 7);
        x.pass(1);
        Expect.is("22 cut when it came", x.cameByLinks(2, 0), -1);
        x.join(1, 2);
        Expect.is("22 not ahead of the hour", x.cameByLinks(2, 0), -1);
        x.pass(1);
        Expect.is("22 joined then", x.cameByLinks(2, 0), 9);
        x.cut(0, 1);
        x.cut(1, 2);
        Expect.is("22 cut afterwards", x.cameByLinks(2, 0), 9);
        Expect.fails("22 kiosk", Expect.INDEX, () -> x.cameByLinks(-1, 0));
        Expect.fails("22 kiosk above", Expect.INDEX, () -> x.cameByLinks(6, 0));
        Expect.fails("22 piece", Expect.INDEX, () -> x.cameByLinks(0, 1));
        Expect.fails("22 piece below", Expect.INDEX, () -> x.cameByLinks(0, -1));
    }

    private static void promise23IsRead() {
        NotaryKiosk x = new NotaryKiosk();
        x.join(0, 1);
        x.grant(0, 1, 2);
        Expect.is("23 at once", x.isRead(0, 0), true);
        Expect.is("23 not come", x.isRead(1, 0), false);
        x.pass(1);
        Expect.is("23 in the mail", x.isRead(1, 0), false);
        x.read(1);
        Expect.is("23 read", x.isRead(1, 0), true);
        x.grant(0, 1, 3);
        x.pass(1);
        Expect.is("23 the next one is not", x.isRead(1, 1), false);
        Expect.fails("23 kiosk", Expect.INDEX, () -> x.isRead(6, 0));
        Expect.fails("23 piece", Expect.INDEX, () -> x.isRead(0, 2));
        Expect.fails("23 piece below", Expect.INDEX, () -> x.isRead(0, -1));
    }

    private static void promise24Mail() {
        NotaryKiosk x = new NotaryKiosk();
        x.join(0, 1);
        x.grant(0, 1, 2);
        x.grant(0, 1, 2);
        Expect.is("24 own is read", x.mail(0), 0);
        Expect.is("24 not come", x.mail(1), 0);
        x.pass(1);
        Expect.is("24 came", x.mail(1), 2);
        x.read(1);
        Expect.is("24 read", x.mail(1), 0);
        x.grant(0, 1, 2);
        x.pass(1);
        Expect.is("24 came later", x.mail(1), 1);
        Expect.fails("24 above", Expect.INDEX, () -> x.mail(6));
        Expect.fails("24 below", Expect.INDEX, () -> x.mail(-1));
    }

    private KiosksTest() {
    }
}
