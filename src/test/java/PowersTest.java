/** Promises 6 to 10, 18 and 25 to 31: powers, and how they are seen at a kiosk. */
public final class PowersTest {

    public static void main(String[] args) {
        promise6Draft();
        promise6DraftTellsTheNextPowers();
        promise7Grant();
        promise7Limits();
        promise8PassOn();
        promise8WithinTheSource();
        promise8WhatTheKioskHasRead();
        promise9Revoke();
        promise9WhatTheKioskHasRead();
        promise10Depute();
        promise10HoursInCommon();
        promise18Powers();
        promise25Source();
        promise26Holder();
        promise27IsGood();
        promise28Done();
        promise29Beyond();
        promise30Against();
        promise30FirstReason();
        promise30WholeLine();
        promise30Deputy();
        promise31Choices();
        Expect.end("PowersTest");
    }

    private static void promise6Draft() {
        NotaryKiosk x = new NotaryKiosk();
        int[][] wrong = {
            {0, 1, 1, 0, 0}, {64, 1, 1, 0, 0}, {-1, 1, 1, 0, 0},
            {1, 0, 1, 0, 0}, {1, 10001, 1, 0, 0}, {1, 1, 0, 0, 0}, {1, 1, 100001, 0, 0},
            {1, 1, 1, -1, 0}, {1, 1, 1, 401, 0}, {1, 1, 1, 0, -1}, {1, 1, 1, 0, 4},
        };
        for (int[] row : wrong) {
            Expect.fails("6 out of range", Expect.ARGUMENT, () -> draft(x, row));
            Expect.changesNothing("6 out of range", Expect.ARGUMENT, y -> y.draft(7, 60, 60, 9, 1), y -> draft(y, row));
        }
        int[][] edges = {{1, 1, 1, 0, 0}, {63, 10000, 100000, 400, 3}};
        for (int[] row : edges) {
            Expect.is("6 edge", Expect.told(() -> draft(x, row)), "drafted");
        }
    }

    private static String draft(NotaryKiosk x, int[] row) {
        x.draft(row[0], row[1], row[2], row[3], row[4]);
        return "drafted";
    }

    private static void promise6DraftTellsTheNextPowers() {
        NotaryKiosk x = new NotaryKiosk();
        x.grant(0, 1, 2);
        x.draft(5, 30, 50, 3, 0);
        x.grant(0, 1, 2);
        x.grant(0, 1, 2);
        Expect.is("6 the power ahead of it stays", x.against(0, 2, 0, 10000), 0);
        for (int power = 1; power < 3; power++) {
            Expect.is("6 limit", x.against(0, 2, power, 30), 0);
            Expect.is("6 above the limit", x.against(0, 2, power, 31), 6);
        }
        int[] reasons = {0, 5, 0, 5, 5, 5};
        for (int kind = 0; kind < 6; kind++) {
            x.prepare(0, kind);
            Expect.is("6 scope " + kind, x.against(0, 2, 1, 1), reasons[kind]);
        }
        x.prepare(0, 0);
        x.act(0, 2, 1, 30);
        Expect.is("6 total", x.against(0, 2, 1, 20), 0);
        Expect.is("6 above the total", x.against(0, 2, 1, 21), 7);
        x.pass(3);
        Expect.is("6 last hour", x.isGood(0, 1), true);
        x.pass(1);
        Expect.is("6 behind the last hour", x.isGood(0, 1), false);
        x.draft(63, 1, 1, 0, 0);
        x.grant(0, 1, 2);
        Expect.is("6 no hours: the hour of making", x.isGood(0, 3), true);
        x.pass(1);
        Expect.is("6 no hours: no longer", x.isGood(0, 3), false);
    }

    private static void promise7Grant() {
        NotaryKiosk x = new NotaryKiosk();
        Expect.is("7 first", x.grant(0, 0, 9), 0);
        Expect.is("7 second", x.grant(5, 9, 0), 1);
        Expect.is("7 made at its kiosk", x.came(5, 1), 0);
        Expect.is("7 read at its kiosk", x.isRead(5, 1), true);
        Expect.is("7 not read elsewhere", x.isRead(0, 1), false);
        Expect.fails("7 kiosk", Expect.INDEX, () -> x.grant(6, 1, 2));
        Expect.fails("7 kiosk below", Expect.INDEX, () -> x.grant(-1, 1, 2));
        Expect.fails("7 giver", Expect.INDEX, () -> x.grant(0, 10, 2));
        Expect.fails("7 giver below", Expect.INDEX, () -> x.grant(0, -1, 2));
        Expect.fails("7 holder", Expect.INDEX, () -> x.grant(0, 1, 10));
        Expect.fails("7 holder below", Expect.INDEX, () -> x.grant(0, 1, -1));
        Expect.fails("7 same", Expect.ARGUMENT, () -> x.grant(0, 3, 3));
        Expect.fails("7 index ahead of argument", Expect.INDEX, () -> x.grant(0, 10, 10));
        Expect.changesNothing("7 same", Expect.ARGUMENT, y -> y.grant(0, 1, 2), y -> y.grant(0, 3, 3));
    }

    private static void promise7Limits() {
        NotaryKiosk x = new NotaryKiosk();
        for (int power = 0; power < 40; power++) {
            Expect.is("7 up to 40", x.grant(power % 6, 1, 2), power);
        }
        Expect.fails("7 40 powers", Expect.STATE, () -> x.grant(0, 1, 2));
        Expect.fails("7 argument ahead of state", Expect.ARGUMENT, () -> x.grant(0, 1, 1));
        Expect.fails("7 index ahead of state", Expect.INDEX, () -> x.grant(6, 1, 1));
        Expect.is("7 still 40", x.powers(), 40);
        Expect.is("7 still 40 pieces", x.news(), 40);
        NotaryKiosk full = fullOfNews();
        Expect.fails("7 160 pieces", Expect.STATE, () -> full.grant(0, 1, 2));
        Expect.fails("7 argument ahead of 160", Expect.ARGUMENT, () -> full.grant(0, 1, 1));
        Expect.is("7 still 160", full.news(), 160);
    }

    /** 160 pieces of news: a power 0 of the person 2 that can be passed on, and 159 acts. */
    private static NotaryKiosk fullOfNews() {
        NotaryKiosk x = new NotaryKiosk();
        x.draft(63, 10, 1000, 10, 1);
        x.grant(0, 1, 2);
        x.draft(63, 10, 1000, 10, 0);
        for (int act = 0; act < 159; act++) {
            x.act(0, 2, 0, 1);
        }
        return x;
    }

    private static void promise8PassOn() {
        NotaryKiosk x = new NotaryKiosk();
        x.draft(63, 100, 1000, 50, 3);
        x.grant(0, 1, 2);
        x.draft(63, 100, 1000, 50, 2);
        Expect.is("8 first", x.passOn(0, 0, 3), 1);
        Expect.is("8 to the giver of the source", x.passOn(0, 0, 1), 2);
        Expect.is("8 made at its kiosk", x.isRead(0, 1), true);
        Expect.fails("8 to the holder of the source", Expect.ARGUMENT, () -> x.passOn(0, 0, 2));
        Expect.fails("8 kiosk", Expect.INDEX, () -> x.passOn(6, 0, 3));
        Expect.fails("8 kiosk below", Expect.INDEX, () -> x.passOn(-1, 0, 3));
        Expect.fails("8 power", Expect.INDEX, () -> x.passOn(0, 3, 3));
        Expect.fails("8 power below", Expect.INDEX, () -> x.passOn(0, -1, 3));
        Expect.fails("8 person", Expect.INDEX, () -> x.passOn(0, 0, 10));
        Expect.fails("8 person below", Expect.INDEX, () -> x.passOn(0, 0, -1));
        x.draft(63, 100, 1000, 50, 1);
        x.passOn(0, 1, 4);
        x.draft(63, 100, 1000, 50, 0);
        Expect.is("8 three times passed on", x.passOn(0, 3, 5), 4);
        Expect.fails("8 depth 0", Expect.ARGUMENT, () -> x.passOn(0, 4, 6));
        for (int power = 5; power < 40; power++) {
            x.grant(0, 1, 2);
        }
        Expect.fails("8 40 powers", Expect.STATE, () -> x.passOn(0, 0, 3));
        Expect.fails("8 argument ahead of 40", Expect.ARGUMENT, () -> x.passOn(0, 0, 2));
        NotaryKiosk full = fullOfNews();
        Expect.fails("8 160 pieces", Expect.STATE, () -> full.passOn(0, 0, 3));
        Expect.fails("8 argument ahead of 160", Expect.ARGUMENT, () -> full.passOn(0, 0, 2));
        Expect.is("8 no power more", full.powers(), 1);
    }

    private static void promise8WithinTheSource() {
        int[][] wrong = {
            {7 | 8, 100, 1000, 50, 0}, {8, 100, 1000, 50, 0}, {7, 101, 1000, 50, 0},
            {7, 100, 1001, 50, 0}, {7, 100, 1000, 51, 0}, {7, 100, 1000, 50, 2}, {7, 100, 1000, 50, 3},
        };
        for (int[] row : wrong) {
            Expect.changesNothing("8 not within", Expect.ARGUMENT, y -> draftSource(y, row), y -> y.passOn(0, 0, 3));
        }
        int[][] right = {{7, 100, 1000, 50, 1}, {2, 1, 1, 0, 0}};
        for (int[] row : right) {
            NotaryKiosk x = new NotaryKiosk();
            draftSource(x, row);
            Expect.is("8 within", x.passOn(0, 0, 3), 1);
        }
        NotaryKiosk later = new NotaryKiosk();
        draftSource(later, new int[] {7, 100, 1000, 50, 1});
        later.pass(10);
        Expect.fails("8 later last hour", Expect.ARGUMENT, () -> later.passOn(0, 0, 3));
        later.draft(7, 100, 1000, 40, 1);
        Expect.is("8 the same last hour", later.passOn(0, 0, 3), 1);
        later.pass(41);
        Expect.fails("8 over: no draft is within", Expect.ARGUMENT, () -> later.passOn(0, 0, 3));
    }

    private static void draftSource(NotaryKiosk x, int[] next) {
        x.draft(7, 100, 1000, 50, 2);
        x.grant(0, 1, 2);
        draft(x, next);
    }

    private static void promise8WhatTheKioskHasRead() {
        NotaryKiosk x = new NotaryKiosk();
        x.draft(63, 100, 1000, 50, 3);
        x.grant(0, 1, 2);
        x.draft(63, 100, 1000, 10, 1);
        Expect.fails("8 not known", Expect.STATE, () -> x.passOn(1, 0, 3));
        Expect.fails("8 argument ahead of not known", Expect.ARGUMENT, () -> x.passOn(1, 0, 2));
        x.join(0, 1);
        x.pass(1);
        Expect.fails("8 not read", Expect.STATE, () -> x.passOn(1, 0, 3));
        x.read(1);
        Expect.is("8 read", x.passOn(1, 0, 3), 1);
        x.draft(63, 100, 1000, 5, 0);
        Expect.is("8 of one passed on", x.passOn(1, 1, 4), 2);
        x.revoke(0, 1, 0);
        Expect.fails("8 revoked here", Expect.STATE, () -> x.passOn(0, 0, 3));
        Expect.is("8 the revocation has not come", x.passOn(1, 0, 5), 3);
        x.pass(1);
        Expect.is("8 the revocation is not read", x.passOn(1, 0, 5), 4);
        Expect.is("8 nor for one passed on", x.passOn(1, 1, 5), 5);
        x.read(1);
        Expect.fails("8 the revocation is read", Expect.STATE, () -> x.passOn(1, 0, 5));
        Expect.fails("8 the source of the source is revoked", Expect.STATE, () -> x.passOn(1, 1, 5));
        Expect.is("8 refused ones are not made", x.powers(), 6);
        Expect.is("8 nor news", x.news(), 7);
    }

    private static void promise9Revoke() {
        NotaryKiosk x = new NotaryKiosk();
        makeLine(x);
        Expect.fails("9 not the giver", Expect.ARGUMENT, () -> x.revoke(0, 5, 2));
        Expect.fails("9 the holder", Expect.ARGUMENT, () -> x.revoke(0, 4, 2));
        Expect.fails("9 giver of a later one", Expect.ARGUMENT, () -> x.revoke(0, 2, 0));
        Expect.fails("9 kiosk", Expect.INDEX, () -> x.revoke(6, 1, 0));
        Expect.fails("9 kiosk below", Expect.INDEX, () -> x.revoke(-1, 1, 0));
        Expect.fails("9 person", Expect.INDEX, () -> x.revoke(0, 10, 0));
        Expect.fails("9 person below", Expect.INDEX, () -> x.revoke(0, -1, 0));
        Expect.fails("9 power", Expect.INDEX, () -> x.revoke(0, 1, 3));
        Expect.fails("9 power below", Expect.INDEX, () -> x.revoke(0, 1, -1));
        Expect.is("9 by its giver", x.revoke(0, 3, 2), 3);
        Expect.is("9 is read", x.isRead(0, 3), true);
        Expect.fails("9 revoked", Expect.STATE, () -> x.revoke(0, 3, 2));
        Expect.fails("9 argument ahead of state", Expect.ARGUMENT, () -> x.revoke(0, 9, 2));
        Expect.is("9 by the giver of its source", x.revoke(0, 1, 1), 4);
        Expect.is("9 the source stays", x.isGood(0, 0), true);
        Expect.is("9 by its giver, too", x.revoke(0, 1, 0), 5);
        NotaryKiosk again = new NotaryKiosk();
        makeLine(again);
        Expect.is("9 by the first giver", again.revoke(0, 1, 2), 3);
        Expect.is("9 by the second giver", again.revoke(0, 2, 1), 4);
        NotaryKiosk whole = new NotaryKiosk();
        makeLine(whole);
        whole.revoke(0, 1, 0);
        Expect.fails("9 revoked by its line", Expect.STATE, () -> whole.revoke(0, 3, 2));
        NotaryKiosk full = fullOfNews();
        Expect.fails("9 160 pieces", Expect.STATE, () -> full.revoke(0, 1, 0));
        Expect.fails("9 argument ahead of 160", Expect.ARGUMENT, () -> full.revoke(0, 2, 0));
    }

    /** The powers 0, 1 and 2 at the kiosk 0, from 1 to 2 to 3 to 4, each the source of the next. */
    private static void makeLine(NotaryKiosk x) {
        x.draft(63, 100, 1000, 50, 2);
        x.grant(0, 1, 2);
        x.draft(63, 100, 1000, 50, 1);
        x.passOn(0, 0, 3);
        x.draft(63, 100, 1000, 50, 0);
        x.passOn(0, 1, 4);
    }

    private static void promise9WhatTheKioskHasRead() {
        NotaryKiosk x = new NotaryKiosk();
        makeLine(x);
        Expect.fails("9 not known", Expect.STATE, () -> x.revoke(1, 1, 0));
        x.join(0, 1);
        x.pass(1);
        Expect.fails("9 not read", Expect.STATE, () -> x.revoke(1, 1, 0));
        x.read(1);
        x.revoke(0, 1, 0);
        Expect.is("9 revoked elsewhere as well", x.revoke(1, 1, 0), 4);
        x.draft(63, 1, 1, 0, 0);
        x.grant(0, 1, 2);
        x.pass(1);
        Expect.is("9 over is no hindrance", x.revoke(0, 1, 3), 6);
        Expect.changesNothing("9 not known", Expect.STATE, PowersTest::makeLine, y -> y.revoke(1, 1, 0));
    }

    private static void promise10Depute() {
        NotaryKiosk x = new NotaryKiosk();
        Expect.is("10 first", x.depute(3, 0, 0), 0);
        Expect.is("10 made at the kiosk 0", x.came(0, 0), 0);
        Expect.is("10 read there", x.isRead(0, 0), true);
        Expect.is("10 not come where it is for", x.came(3, 0), -1);
        Expect.is("10 edges", x.depute(4, 100, 100), 1);
        Expect.is("10 for the kiosk 0", x.depute(0, 0, 100), 2);
        Expect.fails("10 kiosk", Expect.INDEX, () -> x.depute(6, 0, 0));
        Expect.fails("10 kiosk below", Expect.INDEX, () -> x.depute(-1, 101, 0));
        Expect.fails("10 from below", Expect.ARGUMENT, () -> x.depute(1, -1, 0));
        Expect.fails("10 from above", Expect.ARGUMENT, () -> x.depute(1, 101, 0));
        Expect.fails("10 hours below", Expect.ARGUMENT, () -> x.depute(1, 0, -1));
        Expect.fails("10 hours above", Expect.ARGUMENT, () -> x.depute(1, 0, 101));
        Expect.fails("10 argument ahead of state", Expect.ARGUMENT, () -> x.depute(3, 0, 101));
        NotaryKiosk full = fullOfNews();
        Expect.fails("10 160 pieces", Expect.STATE, () -> full.depute(0, 0, 0));
        Expect.fails("10 argument ahead of 160", Expect.ARGUMENT, () -> full.depute(0, 0, 101));
        Expect.is("10 still 160", full.news(), 160);
    }

    private static void promise10HoursInCommon() {
        NotaryKiosk x = new NotaryKiosk();
        x.pass(5);
        Expect.is("10 hours 10 to 15", x.depute(1, 5, 5), 0);
        int[][] common = {{5, 5}, {0, 5}, {10, 0}, {7, 1}, {0, 100}, {10, 90}};
        for (int[] row : common) {
            Expect.fails("10 in common", Expect.STATE, () -> x.depute(1, row[0], row[1]));
        }
        Expect.is("10 of another kiosk", x.depute(2, 5, 5), 1);
        Expect.is("10 right ahead", x.depute(1, 0, 4), 2);
        Expect.is("10 right behind", x.depute(1, 11, 0), 3);
        x.pass(6);
        Expect.fails("10 counted from now", Expect.STATE, () -> x.depute(1, 5, 0));
        Expect.is("10 the next free hour", x.depute(1, 6, 0), 4);
        Expect.changesNothing("10 in common", Expect.STATE, y -> y.depute(2, 1, 2), y -> y.depute(2, 3, 2));
    }

    private static void promise18Powers() {
        NotaryKiosk x = new NotaryKiosk();
        makeLine(x);
        Expect.is("18 granted and passed on", x.powers(), 3);
        x.revoke(0, 1, 0);
        x.pass(50);
        x.pass(50);
        Expect.is("18 revoked and over ones, too", x.powers(), 3);
        x.depute(0, 0, 0);
        Expect.is("18 no other news", x.powers(), 3);
    }

    private static void promise25Source() {
        NotaryKiosk x = new NotaryKiosk();
        makeLine(x);
        x.passOn(0, 0, 5);
        x.grant(0, 1, 2);
        int[] sources = {-1, 0, 1, 0, -1};
        for (int power = 0; power < 5; power++) {
            Expect.is("25 source of " + power, x.source(power), sources[power]);
        }
        Expect.fails("25 above", Expect.INDEX, () -> x.source(5));
        Expect.fails("25 below", Expect.INDEX, () -> x.source(-1));
    }

    private static void promise26Holder() {
        NotaryKiosk x = new NotaryKiosk();
        makeLine(x);
        x.grant(0, 7, 9);
        int[] holders = {2, 3, 4, 9};
        for (int power = 0; power < 4; power++) {
            Expect.is("26 holder of " + power, x.holder(power), holders[power]);
        }
        Expect.fails("26 above", Expect.INDEX, () -> x.holder(4));
        Expect.fails("26 below", Expect.INDEX, () -> x.holder(-1));
    }

    private static void promise27IsGood() {
        NotaryKiosk x = new NotaryKiosk();
        makeLine(x);
        Expect.is("27 known", x.isGood(0, 2), true);
        Expect.is("27 not known", x.isGood(1, 2), false);
        x.join(0, 1);
        x.pass(1);
        Expect.is("27 not read", x.isGood(1, 2), false);
        x.read(1);
        Expect.is("27 read", x.isGood(1, 2), true);
        x.revoke(0, 1, 1);
        Expect.is("27 its source is revoked", x.isGood(0, 2), false);
        Expect.is("27 the source of the revoked one", x.isGood(0, 0), true);
        Expect.is("27 not revoked there", x.isGood(1, 2), true);
        x.pass(1);
        Expect.is("27 the revocation is not read", x.isGood(1, 2), true);
        x.read(1);
        Expect.is("27 the revocation is read", x.isGood(1, 2), false);
        x.pass(48);
        Expect.is("27 last hour", x.isGood(0, 0), true);
        x.pass(1);
        Expect.is("27 over", x.isGood(0, 0), false);
        Expect.fails("27 kiosk", Expect.INDEX, () -> x.isGood(6, 0));
        Expect.fails("27 kiosk below", Expect.INDEX, () -> x.isGood(-1, 0));
        Expect.fails("27 power", Expect.INDEX, () -> x.isGood(0, 3));
        Expect.fails("27 power below", Expect.INDEX, () -> x.isGood(0, -1));
        promise27WholeLineIsKnown();
    }

    private static void promise27WholeLineIsKnown() {
        NotaryKiosk x = new NotaryKiosk();
        x.draft(63, 100, 1000, 50, 1);
        x.grant(0, 1, 2);
        x.join(0, 1);
        x.pass(1);
        x.cut(0, 1);
        x.read(1);
        x.draft(63, 100, 1000, 5, 0);
        x.passOn(1, 0, 3);
        x.join(1, 2);
        x.pass(1);
        x.read(2);
        Expect.is("27 the source came with it", x.isGood(2, 1), true);
        Expect.is("27 not known where it was granted", x.isGood(0, 1), false);
        Expect.is("27 its source is", x.isGood(0, 0), true);
    }

    private static void promise28Done() {
        NotaryKiosk x = new NotaryKiosk();
        makeLine(x);
        x.passOn(0, 1, 5);
        x.act(0, 2, 0, 1);
        x.act(0, 3, 1, 10);
        x.act(0, 4, 2, 20);
        x.act(0, 5, 3, 40);
        int[] here = {71, 70, 20, 40};
        for (int power = 0; power < 4; power++) {
            Expect.is("28 with " + power, x.done(0, power), here[power]);
            Expect.is("28 nothing read", x.done(1, power), 0);
        }
        x.join(0, 1);
        x.pass(1);
        Expect.is("28 not read", x.done(1, 0), 0);
        x.read(1);
        Expect.is("28 read", x.done(1, 1), 70);
        x.act(1, 4, 2, 5);
        Expect.is("28 done there", x.done(1, 1), 75);
        Expect.is("28 not come here", x.done(0, 1), 70);
        x.pass(1);
        Expect.is("28 not read here", x.done(0, 1), 70);
        x.read(0);
        Expect.is("28 read here", x.done(0, 1), 75);
        x.tamper(0, 0, 9999);
        Expect.is("28 tampering changes it not", x.done(0, 0), 76);
        Expect.fails("28 kiosk", Expect.INDEX, () -> x.done(6, 0));
        Expect.fails("28 kiosk below", Expect.INDEX, () -> x.done(-1, 0));
        Expect.fails("28 power", Expect.INDEX, () -> x.done(0, 4));
        Expect.fails("28 power below", Expect.INDEX, () -> x.done(0, -1));
    }

    private static void promise29Beyond() {
        NotaryKiosk x = new NotaryKiosk();
        x.draft(63, 60, 100, 50, 1);
        x.grant(0, 1, 2);
        x.draft(63, 60, 70, 50, 0);
        x.passOn(0, 0, 3);
        x.join(0, 1);
        x.join(0, 2);
        x.pass(1);
        x.read(1);
        x.read(2);
        x.act(0, 3, 1, 60);
        Expect.is("29 below", x.beyond(1), 0);
        x.act(1, 3, 1, 10);
        Expect.is("29 the total itself", x.beyond(1), 0);
        x.act(2, 3, 1, 60);
        Expect.is("29 above", x.beyond(1), 60);
        Expect.is("29 its source, too", x.beyond(0), 30);
        x.tamper(2, 0, 1);
        Expect.is("29 tampering changes it not", x.beyond(1), 60);
        Expect.fails("29 above", Expect.INDEX, () -> x.beyond(2));
        Expect.fails("29 below", Expect.INDEX, () -> x.beyond(-1));
    }

    private static void promise30Against() {
        NotaryKiosk x = new NotaryKiosk();
        x.draft(5, 100, 150, 3, 0);
        x.grant(0, 1, 2);
        Expect.is("30 none", x.against(0, 2, 0, 100), 0);
        Expect.is("30 not known", x.against(1, 2, 0, 100), 1);
        Expect.is("30 not its holder", x.against(0, 1, 0, 100), 2);
        x.prepare(0, 1);
        Expect.is("30 not in its scope", x.against(0, 2, 0, 100), 5);
        x.prepare(0, 2);
        Expect.is("30 above the limit", x.against(0, 2, 0, 101), 6);
        x.act(0, 2, 0, 51);
        Expect.is("30 the total", x.against(0, 2, 0, 99), 0);
        Expect.is("30 above the total", x.against(0, 2, 0, 100), 7);
        x.prepare(1, 2);
        Expect.is("30 the notary acts", x.against(0, 2, 0, 99), 8);
        x.pass(3);
        x.prepare(0, 2);
        Expect.is("30 the last hour", x.against(0, 2, 0, 99), 0);
        x.pass(1);
        Expect.is("30 over", x.against(0, 2, 0, 99), 4);
        x.revoke(0, 1, 0);
        Expect.is("30 revoked", x.against(0, 2, 0, 99), 3);
        Expect.is("30 changes nothing", x.news(), 3);
        Expect.fails("30 kiosk", Expect.INDEX, () -> x.against(6, 2, 0, 1));
        Expect.fails("30 kiosk below", Expect.INDEX, () -> x.against(-1, 2, 0, 1));
        Expect.fails("30 person", Expect.INDEX, () -> x.against(0, 10, 0, 1));
        Expect.fails("30 person below", Expect.INDEX, () -> x.against(0, -1, 0, 1));
        Expect.fails("30 power", Expect.INDEX, () -> x.against(0, 2, 1, 1));
        Expect.fails("30 power below", Expect.INDEX, () -> x.against(0, 2, -1, 1));
        Expect.fails("30 amount", Expect.ARGUMENT, () -> x.against(0, 2, 0, 10001));
        Expect.fails("30 amount below", Expect.ARGUMENT, () -> x.against(0, 2, 0, 0));
        Expect.fails("30 index ahead of argument", Expect.INDEX, () -> x.against(0, 2, 1, 0));
    }

    /** All reasons hold at first; one after the other is taken away. */
    private static void promise30FirstReason() {
        NotaryKiosk x = new NotaryKiosk();
        x.draft(1, 10, 10, 5, 0);
        x.grant(0, 1, 2);
        x.act(0, 2, 0, 10);
        x.pass(6);
        x.revoke(0, 1, 0);
        x.prepare(1, 1);
        Expect.is("30 one ahead of all", x.against(1, 3, 0, 11), 1);
        Expect.is("30 two ahead of three", x.against(0, 3, 0, 11), 2);
        Expect.is("30 three ahead of four", x.against(0, 2, 0, 11), 3);
        x.grant(0, 1, 2);
        x.pass(6);
        Expect.is("30 four ahead of five", x.against(0, 2, 1, 11), 4);
        x.grant(0, 1, 2);
        x.prepare(0, 0);
        x.act(0, 2, 2, 10);
        x.prepare(1, 1);
        Expect.is("30 five ahead of six", x.against(0, 2, 2, 11), 5);
        x.prepare(1, 0);
        Expect.is("30 six ahead of seven", x.against(0, 2, 2, 11), 6);
        Expect.is("30 seven ahead of eight", x.against(0, 2, 2, 10), 7);
        x.grant(0, 1, 2);
        Expect.is("30 eight alone", x.against(0, 2, 3, 10), 8);
    }

    private static void promise30WholeLine() {
        NotaryKiosk x = new NotaryKiosk();
        x.draft(63, 100, 100, 50, 2);
        x.grant(0, 1, 2);
        x.draft(63, 100, 80, 50, 1);
        x.passOn(0, 0, 3);
        x.draft(3, 100, 80, 50, 0);
        x.passOn(0, 1, 4);
        x.act(0, 2, 0, 40);
        Expect.is("30 what is left of the first total", x.against(0, 4, 2, 60), 0);
        Expect.is("30 above the first total", x.against(0, 4, 2, 61), 7);
        x.act(0, 3, 1, 50);
        Expect.is("30 left of the first", x.against(0, 4, 2, 10), 0);
        Expect.is("30 above the first", x.against(0, 4, 2, 11), 7);
        x.prepare(0, 5);
        Expect.is("30 its own scope", x.against(0, 4, 2, 1), 5);
        Expect.is("30 that of its source", x.against(0, 3, 1, 1), 0);
        x.revoke(0, 1, 0);
        Expect.is("30 the whole line is revoked", x.against(0, 3, 1, 1), 3);
        NotaryKiosk middle = new NotaryKiosk();
        makeLine(middle);
        middle.draft(63, 100, 100, 50, 0);
        middle.passOn(0, 1, 5);
        middle.passOn(0, 1, 6);
        middle.act(0, 5, 3, 60);
        Expect.is("30 a sister's acts are not its own", middle.against(0, 6, 4, 100), 0);
    }

    private static void promise30Deputy() {
        NotaryKiosk x = new NotaryKiosk();
        x.grant(0, 1, 2);
        x.depute(0, 1, 1);
        x.depute(1, 0, 100);
        int[] notary = {0, 8, 8, 0};
        for (int hour = 0; hour < 4; hour++) {
            x.prepare(0, 0);
            Expect.is("30 notary in the hour " + hour, x.against(0, 2, 0, 1), notary[hour]);
            x.prepare(1, 0);
            Expect.is("30 deputy in the hour " + hour, x.against(0, 2, 0, 1), 8 - notary[hour]);
            x.pass(1);
        }
        x.prepare(0, 0);
        x.join(0, 1);
        x.pass(1);
        x.grant(1, 1, 2);
        Expect.is("30 the deputation is not read there", x.against(1, 2, 1, 1), 0);
        x.read(1);
        Expect.is("30 the deputation is read there", x.against(1, 2, 1, 1), 8);
    }

    private static void promise31Choices() {
        NotaryKiosk x = new NotaryKiosk();
        Expect.is("31 no powers", x.choices(0, 2, 1), 0);
        x.grant(0, 1, 2);
        x.grant(0, 3, 2);
        x.draft(1, 50, 60, 2, 0);
        x.grant(0, 1, 2);
        x.grant(0, 2, 1);
        x.grant(1, 1, 2);
        Expect.is("31 three", x.choices(0, 2, 50), 3);
        Expect.is("31 above a limit", x.choices(0, 2, 51), 2);
        Expect.is("31 of another person", x.choices(0, 1, 50), 1);
        Expect.is("31 of none", x.choices(0, 5, 1), 0);
        Expect.is("31 at another kiosk", x.choices(1, 2, 1), 1);
        x.prepare(0, 3);
        Expect.is("31 of another kind", x.choices(0, 2, 1), 2);
        x.prepare(1, 0);
        Expect.is("31 the notary acts", x.choices(0, 2, 1), 0);
        x.prepare(0, 0);
        x.act(0, 2, 2, 50);
        Expect.is("31 above a total", x.choices(0, 2, 11), 2);
        Expect.is("31 within the total", x.choices(0, 2, 10), 3);
        x.pass(3);
        Expect.is("31 one is over", x.choices(0, 2, 1), 2);
        x.revoke(0, 1, 0);
        Expect.is("31 one is revoked", x.choices(0, 2, 1), 1);
        Expect.fails("31 kiosk", Expect.INDEX, () -> x.choices(6, 2, 1));
        Expect.fails("31 kiosk below", Expect.INDEX, () -> x.choices(-1, 2, 1));
        Expect.fails("31 person", Expect.INDEX, () -> x.choices(0, 10, 1));
        Expect.fails("31 person below", Expect.INDEX, () -> x.choices(0, -1, 0));
        Expect.fails("31 amount", Expect.ARGUMENT, () -> x.choices(0, 2, 0));
        Expect.fails("31 amount above", Expect.ARGUMENT, () -> x.choices(0, 2, 10001));
    }

    private PowersTest() {
    }
}
