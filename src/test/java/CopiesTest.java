/** Promises 14, 15 and 39 to 42: copies. */
public final class CopiesTest {

    public static void main(String[] args) {
        promise14Copy();
        promise14Refused();
        promise15Forge();
        promise15Refused();
        promise39Size();
        promise40Copied();
        promise41BrokenCopy();
        promise41LeftOutParts();
        promise41AsItIsWhenItIsMade();
        promise42IsTrue();
        promise42LeftOutParts();
        Expect.end("CopiesTest");
    }

    /** Four records of the kiosk 3, of the amounts 10, 20, 30 and 40. */
    private static NotaryKiosk fourRecords() {
        NotaryKiosk x = new NotaryKiosk();
        makeFour(x);
        return x;
    }

    private static void makeFour(NotaryKiosk x) {
        x.grant(3, 0, 1);
        for (int record = 0; record < 4; record++) {
            x.prepare(0, record);
            x.act(3, 1, 0, 10 * record + 10);
        }
    }

    private static void promise14Copy() {
        NotaryKiosk x = fourRecords();
        Expect.is("14 first", x.copy(3, 0, 3, 0), 0);
        Expect.is("14 one record", x.copy(3, 2, 2, 63), 1);
        x.grant(0, 1, 2);
        x.act(0, 2, 1, 5);
        Expect.is("14 of another kiosk", x.copy(0, 0, 0, 0), 2);
        Expect.is("14 is no news", x.news(), 7);
        Expect.is("14 tells that kiosk", x.copied(2, 0, 3), 5);
        for (int copy = 3; copy < 12; copy++) {
            Expect.is("14 up to 12", x.copy(3, 1, 3, copy), copy);
        }
        Expect.fails("14 there are 12", Expect.STATE, () -> x.copy(3, 0, 0, 0));
        Expect.fails("14 argument ahead of state", Expect.ARGUMENT, () -> x.copy(3, 0, 0, 64));
        Expect.fails("14 last ahead of first, ahead of state", Expect.ARGUMENT, () -> x.copy(3, 1, 0, 0));
        Expect.fails("14 index ahead of state", Expect.INDEX, () -> x.copy(3, 0, 4, 0));
        Expect.fails("14 there is no more", Expect.INDEX, () -> x.size(12));
        Expect.is("14 the twelfth is as it was", x.size(11), 3);
    }

    private static void promise14Refused() {
        NotaryKiosk x = fourRecords();
        Expect.fails("14 kiosk", Expect.INDEX, () -> x.copy(6, 0, 0, 0));
        Expect.fails("14 kiosk below", Expect.INDEX, () -> x.copy(-1, 0, 0, 0));
        Expect.fails("14 no records", Expect.INDEX, () -> x.copy(0, 0, 0, 0));
        Expect.fails("14 first", Expect.INDEX, () -> x.copy(3, 4, 4, 0));
        Expect.fails("14 first below", Expect.INDEX, () -> x.copy(3, -1, 2, 0));
        Expect.fails("14 last", Expect.INDEX, () -> x.copy(3, 0, 4, 0));
        Expect.fails("14 last below", Expect.INDEX, () -> x.copy(3, 0, -1, 0));
        Expect.fails("14 last ahead of first", Expect.ARGUMENT, () -> x.copy(3, 2, 1, 0));
        Expect.fails("14 left out", Expect.ARGUMENT, () -> x.copy(3, 0, 1, 64));
        Expect.fails("14 left out below", Expect.ARGUMENT, () -> x.copy(3, 0, 1, -1));
        Expect.fails("14 index ahead of argument", Expect.INDEX, () -> x.copy(3, 4, 1, 0));
        Expect.fails("14 index ahead of left out", Expect.INDEX, () -> x.copy(3, 0, 4, 64));
        Expect.is("14 the first one made is 0", x.copy(3, 0, 0, 0), 0);
        Expect.changesNothing("14 left out", Expect.ARGUMENT, CopiesTest::copyTwo, y -> y.copy(3, 0, 0, 64));
    }

    private static void copyTwo(NotaryKiosk y) {
        makeFour(y);
        y.copy(3, 1, 2, 8);
        y.copy(3, 0, 1, 0);
    }

    private static void promise15Forge() {
        NotaryKiosk x = fourRecords();
        x.copy(3, 1, 3, 1);
        x.copy(3, 1, 3, 0);
        Expect.is("15 the amount", x.forge(0, 0, 3, 10000), 20);
        Expect.is("15 the amount again", x.forge(0, 0, 3, 0), 10000);
        Expect.is("15 back", x.forge(0, 0, 3, 20), 0);
        Expect.is("15 the kind", x.forge(0, 2, 2, 5), 3);
        Expect.is("15 tells it", x.copied(0, 2, 2), 5);
        Expect.is("15 another copy does not", x.copied(1, 2, 2), 3);
        Expect.is("15 nor the kiosk", x.part(3, 3, 2), 3);
        Expect.is("15 nor another place", x.copied(0, 1, 2), 2);
        Expect.is("15 the person", x.forge(1, 0, 0, 9), 1);
        Expect.is("15 the hour", x.forge(1, 2, 5, 7), 0);
        Expect.is("15 the kiosk's chain stays", x.broken(3), -1);
    }

    private static void promise15Refused() {
        NotaryKiosk x = fourRecords();
        x.copy(3, 1, 3, 1 | 32);
        Expect.fails("15 copy", Expect.INDEX, () -> x.forge(1, 0, 1, 1));
        Expect.fails("15 copy below", Expect.INDEX, () -> x.forge(-1, 0, 1, 1));
        Expect.fails("15 place", Expect.INDEX, () -> x.forge(0, 3, 1, 1));
        Expect.fails("15 place below", Expect.INDEX, () -> x.forge(0, -1, 1, 1));
        Expect.fails("15 part", Expect.INDEX, () -> x.forge(0, 0, 6, 1));
        Expect.fails("15 part below", Expect.INDEX, () -> x.forge(0, 0, -1, 1));
        Expect.fails("15 value", Expect.ARGUMENT, () -> x.forge(0, 0, 1, 10001));
        Expect.fails("15 value below", Expect.ARGUMENT, () -> x.forge(0, 0, 1, -1));
        Expect.fails("15 left out", Expect.STATE, () -> x.forge(0, 0, 0, 1));
        Expect.fails("15 left out, the last part", Expect.STATE, () -> x.forge(0, 0, 5, 1));
        Expect.fails("15 argument ahead of left out", Expect.ARGUMENT, () -> x.forge(0, 0, 0, -1));
        Expect.fails("15 index ahead of argument", Expect.INDEX, () -> x.forge(0, 3, 0, -1));
        Expect.changesNothing("15 left out", Expect.STATE, CopiesTest::copyTwo, y -> y.forge(0, 1, 3, 1));
        Expect.changesNothing("15 value", Expect.ARGUMENT, CopiesTest::copyTwo, y -> y.forge(1, 1, 3, 10001));
    }

    private static void promise39Size() {
        NotaryKiosk x = fourRecords();
        x.copy(3, 0, 3, 0);
        x.copy(3, 3, 3, 7);
        x.copy(3, 1, 2, 63);
        x.act(3, 1, 0, 1);
        int[] sizes = {4, 1, 2};
        for (int copy = 0; copy < 3; copy++) {
            Expect.is("39 of " + copy, x.size(copy), sizes[copy]);
        }
        Expect.fails("39 above", Expect.INDEX, () -> x.size(3));
        Expect.fails("39 below", Expect.INDEX, () -> x.size(-1));
    }

    private static void promise40Copied() {
        NotaryKiosk x = fourRecords();
        x.pass(4);
        x.prepare(0, 4);
        x.act(3, 1, 0, 50);
        x.copy(3, 1, 4, 0);
        int[][] parts = {{1, 0, 1, 20, 0, 0}, {1, 0, 2, 30, 0, 0}, {1, 0, 3, 40, 0, 0}, {1, 0, 4, 50, 0, 4}};
        for (int leftOut = 1; leftOut < 64; leftOut = 2 * leftOut + 1) {
            x.copy(3, 1, 4, leftOut);
        }
        for (int copy = 0; copy < 7; copy++) {
            for (int part = 0; part < 6; part++) {
                for (int place = 0; place < 4; place++) {
                    int want = part < copy ? -1 : parts[place][part];
                    Expect.is("40 part " + part + " of " + copy, x.copied(copy, place, part), want);
                }
            }
        }
        x.tamper(3, 1, 21);
        Expect.is("40 as it was when it was made", x.copied(0, 0, 3), 20);
        Expect.fails("40 copy", Expect.INDEX, () -> x.copied(7, 0, 0));
        Expect.fails("40 copy below", Expect.INDEX, () -> x.copied(-1, 0, 0));
        Expect.fails("40 place", Expect.INDEX, () -> x.copied(0, 4, 0));
        Expect.fails("40 place below", Expect.INDEX, () -> x.copied(0, -1, 0));
        Expect.fails("40 part", Expect.INDEX, () -> x.copied(0, 0, 6));
        Expect.fails("40 part below", Expect.INDEX, () -> x.copied(0, 0, -1));
    }

    private static void promise41BrokenCopy() {
        NotaryKiosk x = fourRecords();
        x.copy(3, 0, 3, 0);
        x.copy(3, 1, 3, 0);
        Expect.is("41 whole", x.brokenCopy(0), -1);
        Expect.is("41 whole, not from the record 0", x.brokenCopy(1), -1);
        x.forge(0, 3, 2, 0);
        Expect.is("41 the last place", x.brokenCopy(0), 3);
        x.forge(0, 1, 5, 1);
        Expect.is("41 the first of two", x.brokenCopy(0), 1);
        Expect.is("41 another copy", x.brokenCopy(1), -1);
        x.forge(1, 0, 0, 0);
        Expect.is("41 the place 0 of another one", x.brokenCopy(1), 0);
        x.forge(1, 0, 0, 1);
        Expect.is("41 mended", x.brokenCopy(1), -1);
        x.forge(0, 1, 5, 0);
        Expect.is("41 mended in one place", x.brokenCopy(0), 3);
        for (int part = 0; part < 6; part++) {
            int before = x.forge(1, 1, part, 77);
            Expect.is("41 part " + part, x.brokenCopy(1), 1);
            x.forge(1, 1, part, before);
        }
        Expect.fails("41 above", Expect.INDEX, () -> x.brokenCopy(2));
        Expect.fails("41 below", Expect.INDEX, () -> x.brokenCopy(-1));
    }

    private static void promise41LeftOutParts() {
        for (int leftOut = 0; leftOut < 64; leftOut += 7) {
            NotaryKiosk x = fourRecords();
            x.copy(3, 1, 3, leftOut);
            Expect.is("41 whole without " + leftOut, x.brokenCopy(0), -1);
            for (int part = 0; part < 6; part++) {
                if ((leftOut >> part & 1) == 0) {
                    x.forge(0, 2, part, 99);
                    Expect.is("41 part " + part + " without " + leftOut, x.brokenCopy(0), 2);
                    x.forge(0, 2, part, x.part(3, 3, part));
                }
            }
        }
    }

    private static void promise41AsItIsWhenItIsMade() {
        NotaryKiosk x = fourRecords();
        x.copy(3, 0, 3, 0);
        x.copy(3, 0, 3, 8);
        x.tamper(3, 1, 21);
        Expect.is("41 made ahead of it", x.brokenCopy(0), -1);
        Expect.is("41 made ahead of it, left out", x.brokenCopy(1), -1);
        x.copy(3, 0, 3, 0);
        x.copy(3, 0, 3, 8);
        x.copy(3, 2, 3, 0);
        Expect.is("41 made of the broken one", x.brokenCopy(2), 1);
        Expect.is("41 made of the broken one, left out", x.brokenCopy(3), 1);
        Expect.is("41 of what stands behind it", x.brokenCopy(4), -1);
        x.tamper(3, 1, 20);
        Expect.is("41 stays broken", x.brokenCopy(2), 1);
        Expect.is("41 stays broken, left out", x.brokenCopy(3), 1);
        x.forge(2, 1, 3, 20);
        Expect.is("41 mended in the copy", x.brokenCopy(2), -1);
    }

    private static void promise42IsTrue() {
        NotaryKiosk x = fourRecords();
        x.copy(3, 0, 3, 0);
        x.copy(3, 2, 3, 0);
        Expect.is("42 true", x.isTrue(0), true);
        x.tamper(3, 1, 21);
        Expect.is("42 the kiosk tells another amount", x.isTrue(0), false);
        Expect.is("42 of other records", x.isTrue(1), true);
        x.forge(0, 1, 3, 21);
        Expect.is("42 forged alike", x.isTrue(0), true);
        Expect.is("42 though it is broken", x.brokenCopy(0), 1);
        x.tamper(3, 1, 20);
        Expect.is("42 forged only", x.isTrue(0), false);
        x.forge(0, 1, 3, 20);
        Expect.is("42 both back", x.isTrue(0), true);
        for (int part = 0; part < 6; part++) {
            int before = x.forge(1, 1, part, 99);
            Expect.is("42 part " + part, x.isTrue(1), false);
            x.forge(1, 1, part, before);
            Expect.is("42 part " + part + " back", x.isTrue(1), true);
        }
        x.act(3, 1, 0, 1);
        Expect.is("42 records behind it", x.isTrue(0), true);
        Expect.fails("42 above", Expect.INDEX, () -> x.isTrue(2));
        Expect.fails("42 below", Expect.INDEX, () -> x.isTrue(-1));
    }

    private static void promise42LeftOutParts() {
        NotaryKiosk x = fourRecords();
        x.copy(3, 0, 3, 8);
        x.copy(3, 0, 3, 63);
        x.copy(3, 0, 3, 63 - 8);
        x.tamper(3, 3, 1);
        Expect.is("42 the amount is left out", x.isTrue(0), true);
        Expect.is("42 all is left out", x.isTrue(1), true);
        Expect.is("42 all but the amount", x.isTrue(2), false);
        x.copy(3, 3, 3, 63);
        Expect.is("42 of the tampered record", x.isTrue(3), true);
        Expect.is("42 though it is broken", x.brokenCopy(3), 0);
        x.forge(0, 0, 4, 1);
        Expect.is("42 another part", x.isTrue(0), false);
    }

    private CopiesTest() {
    }
}
