/** The sentences of the terms that tell of chains and copies. */
final class ChainsSentences {

    private static final String RECORDS = "The acts of a kiosk are its records, numbered from 0 on.";
    private static final String SIX_PARTS = "A record has six parts: 0 the person, 1 the power, 2 the kind, 3 the "
            + "amount, 4 who made it, 5 the hour.";
    private static final String SEAL_OF_TWO = "The seal of two numbers a and b is the remainder of 131 times a, 17 "
            + "times b, and 7, together, by 1000003.";
    private static final String SALT = "The salt of a part p of the record r of the kiosk k is 7919 times k, 613 "
            + "times r, and 97 times p, together.";
    private static final String MARK_OF_PART = "The mark of a part is the seal of its salt and what the part tells.";
    private static final String MARK_OF_RECORD = "The mark of a record is what comes of 1 by its parts from 0 to 5 "
            + "on: each time the seal of what there is and the mark of the part.";
    private static final String SEAL_OF_RECORD = "The seal of a record is the seal of the seal of the record ahead "
            + "of it (of 1000 and the kiosk, together, for the record 0) and its own mark; it is kept when the "
            + "record is made.";
    private static final String BROKEN = "A record is broken if, by the parts as they are and the kept seal of the "
            + "record ahead of it, its seal comes out otherwise.";
    private static final String COPY = "A copy is of some records of a kiosk, one behind the other, and leaves out "
            + "some parts, the same in each; of these it has the marks alone.";
    private static final String KEPT_SEALS = "It has the kept seal ahead of its first record, and the kept seals of "
            + "its records, as they are when it is made.";
    private static final String BROKEN_COPY = "It is broken at a record likewise, by its own parts, marks and seals.";
    private static final String TWELVE = "Copies are numbered from 0 on; at most 12 are made.";

    static void termsRecordsAreNumberedFrom0() {
        Document.says(Document.TERMS, RECORDS);
        NotaryKiosk x = new NotaryKiosk();
        for (int kiosk = 0; kiosk < 6; kiosk++) {
            x.grant(kiosk, 1, 2);
            for (int record = 0; record < 3; record++) {
                Expect.is("of " + kiosk, x.act(kiosk, 2, kiosk, record + 1), record);
                Expect.is("so many", x.records(kiosk), record + 1);
            }
        }
        Expect.is("in the order in which they are made", x.part(4, 1, 3), 2);
    }

    static void termsARecordHasSixParts() {
        Document.says(Document.TERMS, SIX_PARTS);
        NotaryKiosk x = Made.by(Made.inTheHour(7));
        x.grant(0, 1, 2);
        x.grant(0, 1, 9);
        x.depute(0, 0, 0);
        x.prepare(1, 4);
        x.act(0, 9, 1, 33);
        int[] parts = {9, 1, 4, 33, 1, 7};
        for (int part = 0; part < 6; part++) {
            Expect.is("part " + part, x.part(0, 0, part), parts[part]);
        }
        Expect.fails("no part 6", Expect.INDEX, () -> x.part(0, 0, 6));
        Expect.fails("no part -1", Expect.INDEX, () -> x.part(0, 0, -1));
    }

    /**
     * The numbers are worked out of the document's words by another program, for acts of the person 2
     * by the power 0, of the kind 0, with the amount 1, by the notary, in the hour 0.
     */
    static void termsTheRemainderBy1000003() {
        Document.says(Document.TERMS, SEAL_OF_TWO);
        NotaryKiosk x = Made.by(Made.withNews(3));
        int[] seals = {739574, 189712};
        for (int record = 0; record < 2; record++) {
            Expect.is("the seal of " + record, x.seal(0, record), seals[record]);
        }
        NotaryKiosk last = new NotaryKiosk();
        last.grant(5, 1, 2);
        last.act(5, 2, 0, 1);
        Expect.is("the seal of the record 0 of the kiosk 5", last.seal(5, 0), 50269);
    }

    static void termsEachSealIsBelow1000003() {
        Document.says(Document.TERMS, SEAL_OF_TWO);
        NotaryKiosk x = Made.by(Made.withNews(160));
        for (int record = 0; record < 159; record++) {
            int seal = x.seal(0, record);
            Expect.is("the seal of " + record + " is a remainder", seal >= 0 && seal < 1000003, true);
        }
    }

    static void termsTheSaltOfEachKioskRecordAndPart() {
        Document.says(Document.TERMS, SALT);
        for (int kiosk = 0; kiosk < 6; kiosk++) {
            NotaryKiosk x = new NotaryKiosk();
            x.grant(kiosk, 1, 2);
            for (int record = 0; record < 20; record++) {
                x.act(kiosk, 2, 0, 7);
                Expect.is(record + " of " + kiosk, x.seal(kiosk, record), Seals.ofRecord(x, kiosk, record));
            }
        }
        NotaryKiosk most = Made.by(Made.withNews(160));
        Expect.is("the last record there can be", most.seal(0, 158), Seals.ofRecord(most, 0, 158));
    }

    /** With one part of a record other than in its twin, the seal is other by what the mark of that part is. */
    static void termsTheMarkOfAPart() {
        Document.says(Document.TERMS, MARK_OF_PART);
        for (int amount : new int[] {1, 2, 5000, 9999, 10000}) {
            NotaryKiosk x = new NotaryKiosk();
            x.grant(2, 1, 0);
            x.act(2, 0, 0, amount);
            Expect.is("the amount " + amount, x.seal(2, 0), Seals.ofRecord(x, 2, 0));
        }
        for (int person = 0; person < 10; person++) {
            NotaryKiosk x = new NotaryKiosk();
            x.grant(2, (person + 1) % 10, person);
            x.act(2, person, 0, 3);
            Expect.is("the person " + person, x.seal(2, 0), Seals.ofRecord(x, 2, 0));
        }
        for (int kind = 0; kind < 6; kind++) {
            NotaryKiosk x = new NotaryKiosk();
            x.grant(2, 1, 0);
            x.prepare(0, kind);
            x.act(2, 0, 0, 3);
            Expect.is("the kind " + kind, x.seal(2, 0), Seals.ofRecord(x, 2, 0));
        }
    }

    static void termsTheMarkOfTheOtherParts() {
        Document.says(Document.TERMS, MARK_OF_PART);
        for (int hour : new int[] {0, 1, 400}) {
            NotaryKiosk x = Made.by(Made.inTheHour(hour));
            x.grant(0, 1, 2);
            x.act(0, 2, 0, 3);
            Expect.is("the hour " + hour, x.seal(0, 0), Seals.ofRecord(x, 0, 0));
            x.depute(0, 0, 0);
            x.prepare(1, 0);
            x.act(0, 2, 0, 3);
            Expect.is("by the deputy", x.seal(0, 1), Seals.ofRecord(x, 0, 1));
        }
        NotaryKiosk last = Made.by(Made.withPowers(40));
        last.act(3, 2, 39, 1);
        Expect.is("the power 39", last.seal(3, 0), Seals.ofRecord(last, 3, 0));
    }

    static void termsTheMarkOfARecordGoesThroughItsParts() {
        Document.says(Document.TERMS, MARK_OF_RECORD);
        NotaryKiosk x = Made.by(Made::fourRecords);
        for (int record = 0; record < 4; record++) {
            long mark = 1;
            for (int part = 0; part < 6; part++) {
                mark = Seals.ofTwo(mark, Seals.markOfPart(3, record, part, x.part(3, record, part)));
            }
            long seal = Seals.ofTwo(Seals.sealAhead(x, 3, record), mark);
            Expect.is("of " + record, (long) x.seal(3, record), seal);
        }
    }

    static void termsTheSealOf1000AndTheKioskIsAheadOfTheRecord0() {
        Document.says(Document.TERMS, SEAL_OF_RECORD);
        for (int kiosk = 0; kiosk < 6; kiosk++) {
            NotaryKiosk x = new NotaryKiosk();
            x.grant(kiosk, 1, 2);
            x.act(kiosk, 2, 0, 9);
            long mark = Seals.markOfRecord(kiosk, 0, new int[] {2, 0, 0, 9, 0, 0});
            Expect.is("of " + kiosk, (long) x.seal(kiosk, 0), Seals.ofTwo(1000 + kiosk, mark));
        }
    }

    static void termsTheKeptSealIsAheadOfTheNextRecord() {
        Document.says(Document.TERMS, SEAL_OF_RECORD);
        NotaryKiosk x = Made.by(Made::fourRecords);
        int kept = x.seal(3, 3);
        x.tamper(3, 3, 41);
        Expect.is("it is kept", x.seal(3, 3), kept);
        x.prepare(0, 0);
        x.act(3, 1, 0, 50);
        long mark = Seals.markOfRecord(3, 4, new int[] {1, 0, 0, 50, 0, 0});
        Expect.is("the next one is by the kept one", (long) x.seal(3, 4), Seals.ofTwo(kept, mark));
        Expect.is("so only the changed one is broken", x.broken(3), 3);
        x.tamper(3, 3, 40);
        Expect.is("and none when it is changed back", x.broken(3), -1);
    }

    static void termsBrokenByThePartsAsTheyAre() {
        Document.says(Document.TERMS, BROKEN);
        NotaryKiosk x = Made.by(Made::fourRecords);
        for (int record = 0; record < 4; record++) {
            x.tamper(3, record, 10 * record + 11);
            Expect.is("one is changed", x.broken(3), record);
            x.tamper(3, record, 10 * record + 10);
            Expect.is("changed back", x.broken(3), -1);
        }
        x.tamper(3, 1, 9);
        x.tamper(3, 2, 9);
        x.tamper(3, 1, 20);
        Expect.is("each by itself, and by the kept seal ahead of it", x.broken(3), 2);
    }

    static void termsOneBehindTheOtherWithoutSomeParts() {
        Document.says(Document.TERMS, COPY);
        for (int leftOut = 0; leftOut < 64; leftOut += 9) {
            NotaryKiosk x = Made.by(Made::fourRecords);
            x.copy(3, 1, 3, leftOut);
            for (int place = 0; place < 3; place++) {
                for (int part = 0; part < 6; part++) {
                    int want = (leftOut >> part & 1) == 1 ? -1 : x.part(3, place + 1, part);
                    Expect.is("without " + leftOut, x.copied(0, place, part), want);
                }
            }
            Expect.is("it can be checked all the same", x.brokenCopy(0), -1);
        }
    }

    static void termsOfLeftOutPartsItHasTheMarks() {
        Document.says(Document.TERMS, COPY);
        NotaryKiosk x = Made.by(Made::fourRecords);
        x.tamper(3, 2, 31);
        x.copy(3, 1, 3, 8);
        Expect.is("the mark of what was told then", x.brokenCopy(0), 1);
        x.tamper(3, 2, 30);
        Expect.is("the mark stays", x.brokenCopy(0), 1);
        Expect.is("no part to compare, so it is true", x.isTrue(0), true);
        x.copy(3, 1, 3, 8);
        x.tamper(3, 2, 31);
        Expect.is("the mark of the right one", x.brokenCopy(1), -1);
    }

    static void termsTheKeptSealsAsTheyAreWhenItIsMade() {
        Document.says(Document.TERMS, KEPT_SEALS);
        NotaryKiosk x = Made.by(Made::fourRecords);
        x.tamper(3, 0, 99);
        x.copy(3, 0, 3, 0);
        x.copy(3, 1, 3, 0);
        Expect.is("the kept seal of a broken record, within the copy", x.brokenCopy(0), 0);
        Expect.is("the kept seal of a broken record, ahead of the copy", x.brokenCopy(1), -1);
        x.tamper(3, 0, 10);
        x.tamper(3, 3, 99);
        Expect.is("the copy stays as it is", x.brokenCopy(0), 0);
        x.forge(0, 0, 3, 10);
        Expect.is("it has all the seals it needs", x.brokenCopy(0), -1);
        x.copy(3, 0, 0, 0);
        Expect.is("ahead of the record 0 there is 1000 and the kiosk", x.brokenCopy(2), -1);
    }

    static void termsACopyIsBrokenByItsOwnParts() {
        Document.says(Document.TERMS, BROKEN_COPY);
        for (int part = 0; part < 6; part++) {
            NotaryKiosk x = Made.by(Made::fourRecords);
            x.copy(3, 1, 3, 63 - (1 << part));
            for (int place = 2; place >= 0; place--) {
                x.forge(0, place, part, 4321);
                Expect.is("the first one forged", x.brokenCopy(0), place);
            }
            for (int place = 0; place < 3; place++) {
                x.forge(0, place, part, x.part(3, place + 1, part));
                Expect.is("the next one that is forged", x.brokenCopy(0), place < 2 ? place + 1 : -1);
            }
            Expect.is("the chain never was", x.broken(3), -1);
        }
    }

    static void termsCopiesAreNumberedFrom0() {
        Document.says(Document.TERMS, TWELVE);
        NotaryKiosk x = Made.by(Made::fourRecords);
        for (int copy = 0; copy < 12; copy++) {
            Expect.is("the next one", x.copy(3, copy % 4, 3, 0), copy);
            Expect.is("is there", x.size(copy), 4 - copy % 4);
        }
        Expect.fails("at most 12", Expect.STATE, () -> x.copy(3, 0, 3, 0));
        Expect.fails("there is no copy 12", Expect.INDEX, () -> x.size(12));
        Expect.is("the last one is as it was", x.size(11), 1);
    }

    private ChainsSentences() {
    }
}
