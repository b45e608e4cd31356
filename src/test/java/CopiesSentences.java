/** The sentences of promises 14, 15 and 39 to 42: copies. */
final class CopiesSentences {

    private static final String NO_SUCH_PLACE = "Throws `IndexOutOfBoundsException` if there is no such copy or "
            + "part, or it does not have so many records";
    private static final String NO_SUCH_COPY = "Throws `IndexOutOfBoundsException` if there is no such copy";
    private static final String WRONG_BOUNDS = "Throws `IllegalArgumentException` if last is ahead of first, or "
            + "leftOut is out of range";
    private static final String IS_TRUE = "Tells whether a copy tells nothing else than the kiosk now: the seals of "
            + "its records are those kept there, and each part that it does not leave out is the same.";
    private static final int[][] PARTS = {
        {1, 0, 0, 10, 0, 0}, {1, 0, 1, 20, 0, 0}, {1, 0, 2, 30, 0, 0}, {1, 0, 3, 40, 0, 0},
    };

    // ---- promise 14

    static void promise14MakesACopy() {
        Document.says(14, "Makes a copy.");
        NotaryKiosk x = Made.by(Made::fourRecords);
        x.copy(3, 1, 2, 0);
        Expect.is("so many records", x.size(0), 2);
        for (int part = 0; part < 6; part++) {
            Expect.is("its first one, part " + part, x.copied(0, 0, part), PARTS[1][part]);
            Expect.is("its last one, part " + part, x.copied(0, 1, part), PARTS[2][part]);
        }
        Expect.is("it is no news", x.news(), 5);
        Expect.is("it is not broken", x.brokenCopy(0), -1);
        Expect.is("it is true", x.isTrue(0), true);
    }

    static void promise14LastIsFirstOrLater() {
        Document.says(14, "- `last`: its last record, first or later");
        for (int first = 0; first < 4; first++) {
            for (int last = 0; last < 4; last++) {
                NotaryKiosk x = Made.by(Made::fourRecords);
                int from = first;
                int to = last;
                String want = last < first ? "IllegalArgumentException" : "0";
                Expect.is(from + " to " + to, Expect.told(() -> x.copy(3, from, to, 0)), want);
                if (last >= first) {
                    Expect.is("so many records", x.size(0), last - first + 1);
                    Expect.is("the first one", x.copied(0, 0, 3), 10 * first + 10);
                    Expect.is("the last one", x.copied(0, last - first, 3), 10 * last + 10);
                }
            }
        }
    }

    static void promise14LeavesOut0To63() {
        Document.says(14, "- `leftOut`: 0 to 63: the parts that are left out");
        for (int leftOut : new int[] {0, 1, 2, 4, 8, 16, 31, 32, 62, 63}) {
            NotaryKiosk x = Made.by(Made::fourRecords);
            x.copy(3, 1, 3, leftOut);
            for (int part = 0; part < 6; part++) {
                boolean left = (leftOut >> part & 1) == 1;
                for (int place = 0; place < 3; place++) {
                    Expect.is(leftOut + ", part " + part, x.copied(0, place, part), left ? -1 : PARTS[place + 1][part]);
                }
            }
        }
        Expect.fails("-1", Expect.ARGUMENT, () -> Made.by(Made::fourRecords).copy(3, 1, 3, -1));
        Expect.fails("64", Expect.ARGUMENT, () -> Made.by(Made::fourRecords).copy(3, 1, 3, 64));
    }

    static void promise14ItsNumber() {
        Document.says(14, "Returns its number.");
        NotaryKiosk x = Made.by(Made::someOfAll);
        Expect.is("behind two", x.copy(1, 0, 0, 0), 2);
        Expect.is("the same once more", x.copy(1, 0, 0, 0), 3);
        NotaryKiosk none = Made.by(Made::fourRecords);
        Expect.fails("refused", Expect.ARGUMENT, () -> none.copy(3, 1, 0, 0));
        Expect.is("refused ones do not count", none.copy(3, 0, 3, 63), 0);
    }

    static void promise14NoSuchKioskOrRecord() {
        Document.says(14, "Throws `IndexOutOfBoundsException` if there is no such kiosk or record");
        Calls.noSuch("copy");
        Expect.changesNothing("no record at all", Expect.INDEX, Made::nothing, y -> y.copy(0, 0, 0, 0));
        Expect.changesNothing("of another kiosk", Expect.INDEX, Made::fourRecords, y -> y.copy(2, 0, 0, 0));
        Expect.changesNothing("both behind the last one", Expect.INDEX, Made::fourRecords, y -> y.copy(3, 4, 4, 0));
        Expect.changesNothing("both below", Expect.INDEX, Made::fourRecords, y -> y.copy(3, -1, -1, 0));
    }

    static void promise14LastIsAheadOfFirst() {
        Document.says(14, WRONG_BOUNDS);
        Expect.changesNothing("by one", Expect.ARGUMENT, Made::someOfAll, y -> y.copy(1, 1, 0, 0));
        Expect.changesNothing("by two", Expect.ARGUMENT, Made::someOfAll, y -> y.copy(1, 2, 0, 63));
        Expect.changesNothing("at the end", Expect.ARGUMENT, Made::someOfAll, y -> y.copy(1, 2, 1, 8));
    }

    static void promise14LeftOutIsOutOfRange() {
        Document.says(14, WRONG_BOUNDS);
        Calls.outOfRange("copy");
        Expect.changesNothing("-1 tells all bits", Expect.ARGUMENT, Made::someOfAll, y -> y.copy(1, 0, 0, -1));
    }

    static void promise14There12() {
        Document.says(14, "Throws `IllegalStateException` if there are 12");
        Expect.is("11", Made.by(Made.withCopies(11)).copy(3, 0, 3, 0), 11);
        Expect.changesNothing("12", Expect.STATE, Made.withCopies(12), y -> y.copy(3, 0, 3, 0));
    }

    // ---- promise 15

    static void promise15ChangesAPart() {
        Document.says(15, "Changes a part of a record in a copy by another hand.");
        for (int part = 0; part < 6; part++) {
            NotaryKiosk x = Made.by(Made::fourRecords);
            x.copy(3, 0, 3, 0);
            x.copy(3, 0, 3, 0);
            x.forge(1, 2, part, 77);
            for (int other = 0; other < 6; other++) {
                Expect.is("the part " + part, x.copied(1, 2, other), other == part ? 77 : PARTS[2][other]);
                Expect.is("not at another place", x.copied(1, 1, other), PARTS[1][other]);
                Expect.is("not in another copy", x.copied(0, 2, other), PARTS[2][other]);
                Expect.is("not in the record", x.part(3, 2, other), PARTS[2][other]);
            }
            Expect.is("the copy is broken", x.brokenCopy(1), 2);
            Expect.is("the chain is not", x.broken(3), -1);
        }
    }

    static void promise15Place0IsItsFirstRecord() {
        Document.says(15, "- `place`: 0 for its first record");
        NotaryKiosk x = Made.by(Made::fourRecords);
        x.copy(3, 2, 3, 0);
        Expect.is("the first one", x.forge(0, 0, 3, 1), 30);
        Expect.is("the last one", x.forge(0, 1, 3, 2), 40);
        Expect.is("told at the first place", x.copied(0, 0, 3), 1);
        Expect.is("told at the last place", x.copied(0, 1, 3), 2);
        Expect.fails("as many as it has", Expect.INDEX, () -> x.forge(0, 2, 3, 1));
    }

    static void promise15ValuesFrom0To10000() {
        Document.says(15, "- `value`: 0 to 10000");
        NotaryKiosk x = Made.by(Made::someOfAll);
        for (int part = 0; part < 6; part++) {
            x.forge(1, 1, part, 10000);
            Expect.is("the most", x.copied(1, 1, part), 10000);
            x.forge(1, 1, part, 0);
            Expect.is("the least", x.copied(1, 1, part), 0);
        }
        Expect.fails("-1", Expect.ARGUMENT, () -> x.forge(1, 1, 0, -1));
        Expect.fails("10001", Expect.ARGUMENT, () -> x.forge(1, 1, 0, 10001));
    }

    static void promise15WhatItToldBefore() {
        Document.says(15, "Returns what it told before.");
        NotaryKiosk x = Made.by(Made::fourRecords);
        x.copy(3, 1, 3, 1);
        x.tamper(3, 1, 22);
        Expect.is("as it was copied", x.forge(0, 0, 3, 0), 20);
        Expect.is("as it was forged", x.forge(0, 0, 3, 7), 0);
        Expect.is("the same once more", x.forge(0, 0, 3, 7), 7);
        Expect.is("another part", x.forge(0, 2, 2, 7), 3);
    }

    static void promise15NoSuchCopyPlaceOrPart() {
        Document.says(15, NO_SUCH_PLACE);
        Calls.noSuch("forge");
        Expect.changesNothing("no copy at all", Expect.INDEX, Made::fourRecords, y -> y.forge(0, 0, 3, 1));
        Expect.changesNothing("a record of the kiosk, not of the copy", Expect.INDEX, y -> {
            Made.fourRecords(y);
            y.copy(3, 1, 1, 0);
        }, y -> y.forge(0, 1, 3, 1));
    }

    static void promise15TheValueIsOutOfRange() {
        Document.says(15, "Throws `IllegalArgumentException` if value is out of range");
        Calls.outOfRange("forge");
    }

    static void promise15ThePartIsLeftOut() {
        Document.says(15, "Throws `IllegalStateException` if the part is left out");
        for (int part = 0; part < 6; part++) {
            int one = part;
            Expect.changesNothing("alone", Expect.STATE, y -> copyWithout(y, 1 << one), y -> y.forge(0, 1, one, 5));
            Expect.changesNothing("with all", Expect.STATE, y -> copyWithout(y, 63), y -> y.forge(0, 0, one, 5));
            NotaryKiosk x = Made.by(y -> copyWithout(y, 63 - (1 << one)));
            Expect.is("all but " + part, x.forge(0, 1, one, 5), PARTS[1][one]);
        }
    }

    private static void copyWithout(NotaryKiosk y, int leftOut) {
        Made.fourRecords(y);
        y.copy(3, 0, 3, leftOut);
    }

    // ---- promises 39 to 42

    static void promise39HowManyRecords() {
        Document.says(39, "Returns how many records a copy has.");
        NotaryKiosk x = Made.by(Made::fourRecords);
        x.copy(3, 3, 3, 63);
        x.copy(3, 0, 3, 0);
        x.copy(3, 1, 2, 7);
        x.act(3, 1, 0, 1);
        Expect.is("one", x.size(0), 1);
        Expect.is("all there were", x.size(1), 4);
        Expect.is("two", x.size(2), 2);
        NotaryKiosk full = Made.by(Made.withNews(160));
        full.copy(0, 0, 158, 0);
        Expect.is("as many as there can be", full.size(0), 159);
        Expect.is("the last one of them", full.copied(0, 158, 3), 1);
        Expect.is("none of them is broken", full.brokenCopy(0), -1);
    }

    static void promise39NoSuchCopy() {
        Document.says(39, NO_SUCH_COPY);
        Calls.noSuch("size");
        noSuchCopyThere("size", (x, copy) -> x.size(copy));
    }

    private interface OfCopy {
        Object ask(NotaryKiosk x, int copy);
    }

    /** There is none at first, and none behind the last one; the twelfth is there. */
    private static void noSuchCopyThere(String name, OfCopy call) {
        NotaryKiosk none = Made.by(Made::fourRecords);
        NotaryKiosk all = Made.by(Made.withCopies(12));
        Expect.fails(name + " of none", Expect.INDEX, () -> call.ask(none, 0));
        Expect.fails(name + " behind twelve", Expect.INDEX, () -> call.ask(all, 12));
        Expect.passes(name + " of the twelfth", () -> call.ask(all, 11));
    }

    static void promise40APart() {
        Document.says(40, "Returns a part of a record in a copy.");
        NotaryKiosk x = Made.by(Made::fourRecords);
        x.copy(3, 1, 3, 0);
        for (int place = 0; place < 3; place++) {
            for (int part = 0; part < 6; part++) {
                Expect.is("part " + part + " at " + place, x.copied(0, place, part), PARTS[place + 1][part]);
            }
        }
        x.tamper(3, 2, 99);
        Expect.is("as it was when it was copied", x.copied(0, 1, 3), 30);
    }

    static void promise40Place0IsItsFirstRecord() {
        Document.says(40, "- `place`: 0 for its first record");
        NotaryKiosk x = Made.by(Made::fourRecords);
        x.copy(3, 2, 3, 0);
        x.copy(3, 0, 0, 0);
        Expect.is("not the record 0", x.copied(0, 0, 3), 30);
        Expect.is("the next one", x.copied(0, 1, 3), 40);
        Expect.is("the record 0", x.copied(1, 0, 3), 10);
    }

    static void promise40LeftOutTellsMinus1() {
        Document.says(40, "Returns what it tells; -1 if it is left out.");
        for (int part = 0; part < 6; part++) {
            NotaryKiosk x = Made.by(Made::fourRecords);
            x.copy(3, 0, 3, 1 << part);
            for (int place = 0; place < 4; place++) {
                for (int other = 0; other < 6; other++) {
                    int want = other == part ? -1 : PARTS[place][other];
                    Expect.is(part + " is left out, " + other, x.copied(0, place, other), want);
                }
            }
        }
    }

    static void promise40NoSuchCopyPlaceOrPart() {
        Document.says(40, NO_SUCH_PLACE);
        Calls.noSuch("copied");
        noSuchCopyThere("copied", (x, copy) -> x.copied(copy, 0, 0));
        NotaryKiosk x = Made.by(Made::fourRecords);
        x.copy(3, 1, 2, 63);
        Expect.fails("a record of the kiosk, not of the copy", Expect.INDEX, () -> x.copied(0, 2, 0));
        Expect.fails("no such part, though all are left out", Expect.INDEX, () -> x.copied(0, 0, 6));
    }

    static void promise41TheFirstBrokenPlace() {
        Document.says(41, "Returns the first place of a copy that is broken.");
        NotaryKiosk x = Made.by(Made::fourRecords);
        x.copy(3, 1, 3, 0);
        x.forge(0, 2, 3, 41);
        Expect.is("the last place", x.brokenCopy(0), 2);
        x.forge(0, 1, 5, 1);
        Expect.is("the first of two", x.brokenCopy(0), 1);
        x.forge(0, 0, 0, 2);
        Expect.is("the place 0", x.brokenCopy(0), 0);
        x.forge(0, 0, 0, 1);
        Expect.is("no longer", x.brokenCopy(0), 1);
    }

    static void promise41NoneIsBroken() {
        Document.says(41, "Returns the place; -1 if none is.");
        for (int leftOut = 0; leftOut < 64; leftOut++) {
            NotaryKiosk x = Made.by(Made::fourRecords);
            x.copy(3, 0, 3, leftOut);
            x.copy(3, 3, 3, leftOut);
            Expect.is("from the first record, without " + leftOut, x.brokenCopy(0), -1);
            Expect.is("the last record alone, without " + leftOut, x.brokenCopy(1), -1);
            x.tamper(3, 0, 5);
            Expect.is("what is done to the chain is not to the copy", x.brokenCopy(0), -1);
        }
        NotaryKiosk mended = Made.by(Made::fourRecords);
        mended.copy(3, 0, 3, 0);
        mended.forge(0, 0, 3, 0);
        mended.forge(0, 0, 3, 10);
        Expect.is("mended", mended.brokenCopy(0), -1);
    }

    static void promise41NoSuchCopy() {
        Document.says(41, NO_SUCH_COPY);
        Calls.noSuch("brokenCopy");
        noSuchCopyThere("brokenCopy", (x, copy) -> x.brokenCopy(copy));
    }

    static void promise42EachPartIsTheSame() {
        Document.says(42, IS_TRUE);
        for (int part = 0; part < 6; part++) {
            NotaryKiosk x = Made.by(Made::fourRecords);
            x.copy(3, 1, 3, 0);
            Expect.is("true", x.isTrue(0), true);
            for (int place = 0; place < 3; place++) {
                int before = x.forge(0, place, part, 88);
                Expect.is("forged at " + place, x.isTrue(0), false);
                x.forge(0, place, part, before);
                Expect.is("as before at " + place, x.isTrue(0), true);
            }
        }
    }

    static void promise42TheKioskNow() {
        Document.says(42, IS_TRUE);
        NotaryKiosk x = Made.by(Made::fourRecords);
        x.copy(3, 0, 3, 0);
        x.copy(3, 0, 2, 0);
        x.tamper(3, 3, 41);
        Expect.is("the kiosk tells another amount", x.isTrue(0), false);
        Expect.is("that record is not copied", x.isTrue(1), true);
        x.forge(0, 3, 3, 41);
        Expect.is("forged to tell the same", x.isTrue(0), true);
        x.tamper(3, 3, 40);
        Expect.is("the kiosk's is mended", x.isTrue(0), false);
        x.copy(3, 0, 3, 0);
        x.act(3, 1, 0, 9);
        Expect.is("records behind it", x.isTrue(2), true);
    }

    static void promise42LeftOutPartsDoNotCount() {
        Document.says(42, IS_TRUE);
        NotaryKiosk x = Made.by(Made::fourRecords);
        x.copy(3, 0, 3, 8);
        x.copy(3, 0, 3, 63);
        x.copy(3, 0, 3, 55);
        x.tamper(3, 0, 11);
        Expect.is("without the amount", x.isTrue(0), true);
        Expect.is("without all", x.isTrue(1), true);
        Expect.is("without all but the amount", x.isTrue(2), false);
        x.copy(3, 0, 0, 0);
        Expect.is("the copy of a broken record", x.isTrue(3), true);
        Expect.is("it is broken as well", x.brokenCopy(3), 0);
    }

    static void promise42NoSuchCopy() {
        Document.says(42, NO_SUCH_COPY);
        Calls.noSuch("isTrue");
        noSuchCopyThere("isTrue", (x, copy) -> x.isTrue(copy));
    }

    private CopiesSentences() {
    }
}
