import java.util.function.Consumer;

/** The sentences of the terms that tell of news, powers, deputies and acts. */
final class TermsSentences {

    private static final String READ_AND_COULD = "An act is made by what a kiosk has read; it stands by what it "
            + "could have read.";
    private static final String KEPT = "Whether it stands is kept as it is made, and told once more from all news "
            + "and all hours at which it came; and when news came somewhere is told once more from which kiosks "
            + "were joined in which hours.";
    private static final String KIOSKS = "Kiosks are 0 to 5, persons 0 to 9.";
    private static final String PIECES = "Whatever is made at a kiosk - a power, a revocation, a deputation, an act "
            + "- is a piece of news; these are numbered from 0 on in the order in which they are made, at most 160.";
    private static final String AT_ONCE = "A piece has come to the kiosk where it is made in the hour in which it "
            + "is made, and is read there at once.";
    private static final String HOUR_PASSES = "When an hour passes, all that had come to a kiosk by then comes in "
            + "the new hour to each kiosk that is joined to it then, if it had not come there; it is in the mail "
            + "there until the kiosk reads its mail.";
    private static final String HAS_READ = "What a kiosk has read by now is the news that is read there.";
    private static final String COULD_READ = "What could have been read for a piece that was made at a kiosk is the "
            + "news that had come there in its hour or ahead of it; but of what was made there itself only what has "
            + "a lower number.";
    private static final String NUMBERED = "Powers are numbered from 0 on; at most 40 are made.";
    private static final String A_POWER_HAS = "A power has a giver, a holder, who is another person, a scope, which "
            + "is a set of kinds of acts 0 to 5 as bits, a limit for each act, a total for all acts, a last hour, "
            + "and a depth, 0 to 3.";
    private static final String ITS_SOURCE = "It is granted by a person, or passed on from another power, its "
            + "source, by the holder of that one, who is its giver then.";
    private static final String LINE = "The line of a power are it, its source, the source of that, and so on.";
    private static final String LESS = "A power that is passed on has a scope without other kinds than those of its "
            + "source, and neither a greater limit nor a greater total nor a later last hour than that, and less "
            + "depth; a power of the depth 0 is not passed on.";
    private static final String BY_SOME_NEWS = "By some news a power is known if all powers of its line are in the "
            + "news; it is revoked if a revocation of some power of its line is in the news; it is over in an hour "
            + "if that is behind the last hour of some power of its line.";
    private static final String DONE = "What was done with it, by some news, are the amounts of all acts in the "
            + "news that were made by it, or by a power in whose line it is, together.";
    private static final String WHO_REVOKES = "A power is revoked by its giver, or by the giver of another power of "
            + "its line.";
    private static final String DEPUTATIONS = "The chamber, which is the kiosk 0, makes deputations: for some hours "
            + "of some kiosk, from one hour to another one, both included, its deputy acts in place of its notary.";
    private static final String NO_TWO = "No two deputations for one kiosk have an hour in common.";
    private static final String WHO_ACTS = "By some news the deputy acts in an hour if there is a deputation in the "
            + "news that has this hour, otherwise the notary.";
    private static final String AN_ACT = "An act is made at a kiosk by its notary (0) or its deputy (1), for a "
            + "person, by a power, of a kind, with an amount, 1 to 10000.";
    private static final String REASONS = "By some news and in some hour the reason against it is the first one of "
            + "these that holds: 1 the power is not known; 2 the person is not its holder; 3 it is revoked; 4 it is "
            + "over; 5 the kind is not in its scope; 6 the amount is above the limit of some power of its line; 7 "
            + "for some power of its line what was done with it and the amount, together, are above its total; 8 "
            + "the other one of notary and deputy acts.";
    private static final String MADE_ONLY = "An act is made only if the reason against it is 0 by what the kiosk "
            + "has read by now, in the hour of now.";
    private static final String STANDS = "It stands if the reason against it is 0 by what could have been read for "
            + "it, in its hour.";

    // ---- what it is for, kiosks, persons, the hour

    /** The kiosk 1 has read a power, but not that it is revoked. */
    private static void revocationInTheMail(NotaryKiosk y) {
        Made.onePower(y);
        y.join(0, 1);
        y.pass(1);
        y.read(1);
        y.revoke(0, 1, 0);
        y.pass(1);
    }

    static void termsMadeByWhatIsReadStandsByTheMail() {
        Document.says(Document.TERMS, READ_AND_COULD);
        NotaryKiosk x = Made.by(TermsSentences::revocationInTheMail);
        Expect.is("it is made", x.act(1, 2, 0, 1), 0);
        Expect.is("it does not stand", x.stands(1, 0), false);
        x.read(1);
        Expect.fails("none is made when it is read", Expect.STATE, () -> x.act(1, 2, 0, 1));
    }

    static void termsKeptAndToldOnceMore() {
        Document.says(Document.TERMS, KEPT);
        NotaryKiosk x = Made.by(TermsSentences::revocationInTheMail);
        x.act(1, 2, 0, 1);
        NotaryKiosk before = Made.by(Made::onePower);
        before.act(0, 2, 0, 1);
        before.revoke(0, 1, 0);
        for (NotaryKiosk one : new NotaryKiosk[] {x, before}) {
            int kiosk = one == x ? 1 : 0;
            boolean stands = one != x;
            Expect.is("as it is made", one.stands(kiosk, 0), stands);
            Expect.is("told once more", one.fault(kiosk, 0) == 0, stands);
            Made.passAndReadAll(one);
            Expect.is("kept", one.stands(kiosk, 0), stands);
            Expect.is("told once more, later", one.fault(kiosk, 0) == 0, stands);
        }
        for (int kiosk = 0; kiosk < 6; kiosk++) {
            for (int piece = 0; piece < x.news(); piece++) {
                Expect.is("came, told once more", x.cameByLinks(kiosk, piece), x.came(kiosk, piece));
            }
        }
    }

    static void termsKiosksAre0To5() {
        Document.says(Document.TERMS, KIOSKS);
        for (int kiosk = 0; kiosk < 6; kiosk++) {
            NotaryKiosk x = new NotaryKiosk();
            Expect.is("a power at " + kiosk, x.grant(kiosk, 1, 2), 0);
            Expect.is("an act at " + kiosk, x.act(kiosk, 2, 0, 1), 0);
            Expect.is("joined to the others", x.join(kiosk, (kiosk + 1) % 6), 1);
            Expect.is("a deputy for " + kiosk, x.depute(kiosk, 0, 0), 2);
        }
        NotaryKiosk x = new NotaryKiosk();
        for (int none : new int[] {-1, 6, Integer.MIN_VALUE, Integer.MAX_VALUE}) {
            Expect.fails("kiosk " + none, Expect.INDEX, () -> x.mail(none));
            Expect.fails("at the kiosk " + none, Expect.INDEX, () -> x.grant(none, 1, 2));
        }
    }

    static void termsPersonsAre0To9() {
        Document.says(Document.TERMS, KIOSKS);
        for (int person = 0; person < 10; person++) {
            NotaryKiosk x = new NotaryKiosk();
            int other = (person + 1) % 10;
            Expect.is("grants", x.grant(0, person, other), 0);
            Expect.is("holds", x.grant(0, other, person), 1);
            Expect.is("acts", x.act(0, person, 1, 1), 0);
            Expect.is("revokes", x.revoke(0, person, 0), 3);
        }
        NotaryKiosk x = new NotaryKiosk();
        for (int none : new int[] {-1, 10, Integer.MIN_VALUE, Integer.MAX_VALUE}) {
            Expect.fails("giver " + none, Expect.INDEX, () -> x.grant(0, none, 1));
            Expect.fails("holder " + none, Expect.INDEX, () -> x.grant(0, 1, none));
            Expect.fails("choices of " + none, Expect.INDEX, () -> x.choices(0, none, 1));
        }
    }

    static void termsTheHourIs0AtFirst() {
        Document.says(Document.TERMS, "The hour of now is 0 at first.");
        NotaryKiosk x = new NotaryKiosk();
        Expect.is("hour", x.hour(), 0);
        x.depute(3, 0, 0);
        Expect.is("what is made is made in the hour 0", x.came(0, 0), 0);
    }

    // ---- news

    static void termsWhateverIsMadeIsNews() {
        Document.says(Document.TERMS, PIECES);
        NotaryKiosk x = Made.by(Made::onePower);
        Expect.is("a power", x.news(), 1);
        x.passOn(0, 0, 3);
        Expect.is("a power that is passed on", x.news(), 2);
        Expect.is("a deputation", x.depute(3, 0, 0), 2);
        x.act(0, 2, 0, 1);
        Expect.is("an act", x.pieceOf(0, 0), 3);
        Expect.is("a revocation", x.revoke(0, 1, 0), 4);
        Expect.is("in the order in which they are made", x.news(), 5);
        NotaryKiosk first = new NotaryKiosk();
        Expect.is("numbered from 0 on", first.depute(0, 0, 0), 0);
    }

    static void termsAtMost160Pieces() {
        Document.says(Document.TERMS, PIECES);
        NotaryKiosk x = Made.by(Made.withNews(159));
        Expect.is("the last one is 159", x.depute(3, 0, 0), 159);
        Expect.fails("no power more", Expect.STATE, () -> x.grant(0, 1, 2));
        Expect.fails("no power passed on", Expect.STATE, () -> x.passOn(0, 0, 3));
        Expect.fails("no revocation", Expect.STATE, () -> x.revoke(0, 1, 0));
        Expect.fails("no deputation", Expect.STATE, () -> x.depute(4, 0, 0));
        Expect.fails("no act", Expect.STATE, () -> x.act(0, 2, 0, 1));
        Expect.is("160 are all", x.news(), 160);
        Expect.is("the last one is there", x.came(0, 159), 0);
    }

    /** The last piece there can be counts as every other one does. */
    static void termsThePiece159Counts() {
        Document.says(Document.TERMS, PIECES);
        NotaryKiosk power = Made.by(Made.withNews(159));
        power.grant(0, 1, 3);
        Expect.is("a power", power.isGood(0, 1), true);
        NotaryKiosk revocation = Made.by(Made.withNews(159));
        revocation.revoke(0, 1, 0);
        Expect.is("a revocation", revocation.isGood(0, 0), false);
        NotaryKiosk deputation = Made.by(Made.withNews(159));
        deputation.depute(0, 0, 0);
        Expect.is("a deputation", deputation.against(0, 2, 0, 1), 8);
        NotaryKiosk act = Made.by(Made.withNews(160));
        Expect.is("an act", act.done(0, 0), 159);
        Expect.is("it stands", act.fault(0, 158), 0);
    }

    static void termsComeAndReadAtOnceWhereItIsMade() {
        Document.says(Document.TERMS, AT_ONCE);
        NotaryKiosk x = Made.by(Made.inTheHour(2));
        x.grant(0, 1, 2);
        x.depute(4, 0, 0);
        x.act(0, 2, 0, 1);
        x.revoke(0, 1, 0);
        for (int piece = 0; piece < 4; piece++) {
            Expect.is("came in the hour of making", x.came(0, piece), 2);
            Expect.is("is read", x.isRead(0, piece), true);
            Expect.is("nowhere else", x.came(1, piece), -1);
        }
        Expect.is("none is in the mail", x.mail(0), 0);
    }

    static void termsJoinedOrNotAsAtFirst() {
        Document.says(Document.TERMS, "Any two kiosks are joined, or not, as at first.");
        for (int kiosk = 0; kiosk < 6; kiosk++) {
            for (int other = 0; other < kiosk; other++) {
                NotaryKiosk x = new NotaryKiosk();
                Expect.is("not at first", x.areJoined(kiosk, other), false);
                x.join(other, kiosk);
                Expect.is("any two can be", x.areJoined(kiosk, other), true);
                x.cut(kiosk, other);
                Expect.is("and cut again", x.areJoined(kiosk, other), false);
            }
        }
    }

    static void termsComesToEachJoinedKiosk() {
        Document.says(Document.TERMS, HOUR_PASSES);
        NotaryKiosk x = new NotaryKiosk();
        x.join(0, 1);
        x.join(0, 2);
        x.join(2, 3);
        x.grant(0, 1, 2);
        x.grant(1, 1, 2);
        x.pass(1);
        int[][] came = {{0, 1, 1, -1, -1, -1}, {1, 0, -1, -1, -1, -1}};
        for (int piece = 0; piece < 2; piece++) {
            for (int kiosk = 0; kiosk < 6; kiosk++) {
                Expect.is("one kiosk further: " + piece + " to " + kiosk, x.came(kiosk, piece), came[piece][kiosk]);
            }
        }
        x.pass(1);
        Expect.is("the next hour, the next kiosk", x.came(3, 0), 2);
        Expect.is("from where it came", x.came(2, 1), 2);
        Expect.is("not where it had come", x.came(1, 0), 1);
    }

    static void termsJoinedThenNotBefore() {
        Document.says(Document.TERMS, HOUR_PASSES);
        NotaryKiosk x = new NotaryKiosk();
        x.grant(0, 1, 2);
        x.join(0, 1);
        x.cut(0, 1);
        x.pass(1);
        Expect.is("cut before the hour passed", x.came(1, 0), -1);
        x.join(0, 1);
        Expect.is("not by joining alone", x.came(1, 0), -1);
        x.pass(1);
        Expect.is("joined then", x.came(1, 0), 2);
        x.cut(0, 1);
        Expect.is("what came stays", x.came(1, 0), 2);
        Expect.is("and stays in the mail", x.mail(1), 1);
    }

    static void termsInTheMailUntilItIsRead() {
        Document.says(Document.TERMS, HOUR_PASSES);
        NotaryKiosk x = Made.by(Made::allJoined);
        x.grant(0, 1, 2);
        x.pass(1);
        Expect.is("in the mail", x.mail(1), 1);
        x.pass(50);
        Expect.is("hours later", x.mail(1), 1);
        Expect.is("not read", x.isRead(1, 0), false);
        x.read(1);
        x.pass(1);
        Expect.is("not in the mail once more", x.mail(1), 0);
        Expect.is("mail that is not read goes on all the same", x.came(5, 0), 1);
    }

    static void termsWhatAKioskHasRead() {
        Document.says(Document.TERMS, HAS_READ);
        NotaryKiosk x = Made.by(TermsSentences::revocationInTheMail);
        Expect.is("what is read counts, what lies in the mail does not", x.isGood(1, 0), true);
        x.read(1);
        Expect.is("now it is read", x.isGood(1, 0), false);
        Expect.is("where it never came", x.isGood(2, 0), false);
    }

    static void termsCouldHaveBeenReadInItsHourOrAheadOfIt() {
        Document.says(Document.TERMS, COULD_READ);
        NotaryKiosk x = Made.by(TermsSentences::revocationInTheMail);
        x.act(1, 2, 0, 1);
        Expect.is("came in its hour", x.fault(1, 0), 3);
        x.pass(1);
        x.act(1, 2, 0, 1);
        Expect.is("came ahead of it", x.fault(1, 1), 3);
        NotaryKiosk later = Made.by(Made::onePower);
        later.join(0, 1);
        later.pass(1);
        later.read(1);
        later.revoke(0, 1, 0);
        later.act(1, 2, 0, 1);
        later.pass(1);
        Expect.is("came in the hour behind it", later.fault(1, 0), 0);
        Expect.is("and it stood", later.stands(1, 0), true);
    }

    static void termsOfWhatWasMadeThereOnlyLowerNumbers() {
        Document.says(Document.TERMS, COULD_READ);
        NotaryKiosk x = new NotaryKiosk();
        x.draft(63, 10, 10, 5, 0);
        x.grant(0, 1, 2);
        x.act(0, 2, 0, 5);
        x.act(0, 2, 0, 5);
        x.depute(0, 0, 0);
        x.revoke(0, 1, 0);
        for (int record = 0; record < 2; record++) {
            Expect.is("of the same hour, but made behind it", x.fault(0, record), 0);
            Expect.is("so it stands", x.stands(0, record), true);
        }
        x.grant(0, 1, 3);
        x.prepare(1, 0);
        x.act(0, 3, 1, 10);
        Expect.is("of the same hour, made ahead of it: it is known, and the deputy acts", x.fault(0, 2), 0);
    }

    // ---- powers

    static void termsPowersAreNumberedFrom0() {
        Document.says(Document.TERMS, NUMBERED);
        NotaryKiosk x = new NotaryKiosk();
        x.draft(63, 10, 10, 5, 1);
        Expect.is("the first one", x.grant(0, 1, 2), 0);
        x.draft(63, 10, 10, 5, 0);
        Expect.is("the next one", x.passOn(0, 0, 3), 1);
        Expect.is("at another kiosk", x.grant(5, 1, 2), 2);
    }

    static void termsAtMost40Powers() {
        Document.says(Document.TERMS, NUMBERED);
        NotaryKiosk x = Made.by(Made.withPowers(39));
        Expect.is("the last one is 39", x.passOn(0, 0, 3), 39);
        Expect.fails("none is granted", Expect.STATE, () -> x.grant(0, 1, 2));
        Expect.fails("none is passed on", Expect.STATE, () -> x.passOn(0, 0, 3));
        Expect.is("40 are all", x.powers(), 40);
        Expect.is("the last one is there", x.holder(39), 3);
        Expect.is("other news is made", x.revoke(0, 1, 39), 40);
    }

    static void termsWhatAPowerHas() {
        Document.says(Document.TERMS, A_POWER_HAS);
        NotaryKiosk x = new NotaryKiosk();
        x.draft(36, 10, 25, 3, 1);
        x.grant(0, 7, 8);
        Expect.is("its holder", x.holder(0), 8);
        Expect.fails("who is another person", Expect.ARGUMENT, () -> x.grant(0, 7, 7));
        int[] reasons = {5, 5, 0, 5, 5, 0};
        for (int kind = 0; kind < 6; kind++) {
            x.prepare(0, kind);
            Expect.is("its scope, bit by bit: " + kind, x.against(0, 8, 0, 1), reasons[kind]);
        }
        Expect.is("its limit for each act", x.against(0, 8, 0, 10), 0);
        Expect.is("above it", x.against(0, 8, 0, 11), 6);
        x.act(0, 8, 0, 10);
        x.act(0, 8, 0, 10);
        Expect.is("its total for all acts", x.against(0, 8, 0, 5), 0);
        Expect.is("above it", x.against(0, 8, 0, 6), 7);
        x.draft(4, 1, 1, 1, 0);
        Expect.is("its depth", x.passOn(0, 0, 1), 1);
        x.pass(3);
        Expect.is("its last hour", x.isGood(0, 0), true);
        Expect.is("its giver", x.revoke(0, 7, 0), 4);
    }

    static void termsTheGiverIsTheHolderOfTheSource() {
        Document.says(Document.TERMS, ITS_SOURCE);
        NotaryKiosk x = Made.by(Made::longLine);
        Expect.is("granted, without a source", x.source(0), -1);
        Expect.is("passed on from its source", x.source(3), 2);
        Expect.fails("its holder revokes it not", Expect.ARGUMENT, () -> x.revoke(0, 5, 3));
        Expect.is("the holder of its source is its giver", x.revoke(0, 4, 3), 4);
        Expect.is("the person of the grant is the giver of that", x.revoke(0, 1, 0), 5);
    }

    static void termsTheLineGoesOnToTheGrantedOne() {
        Document.says(Document.TERMS, LINE);
        for (int revoked = 0; revoked < 4; revoked++) {
            NotaryKiosk x = Made.by(Made::longLine);
            x.draft(1, 1, 1, 1, 0);
            x.passOn(0, 0, 9);
            x.revoke(0, 1, revoked);
            for (int power = 0; power < 4; power++) {
                Expect.is(revoked + " is in the line of " + power, x.isGood(0, power), power < revoked);
            }
            Expect.is("in that of another branch only the first one", x.isGood(0, 4), revoked > 0);
        }
    }

    private static Consumer<NotaryKiosk> sourceAndDraft(int scope, int limit, int total, int hours, int depth) {
        return y -> {
            y.draft(9, 50, 70, 20, 2);
            y.grant(0, 1, 2);
            y.draft(scope, limit, total, hours, depth);
        };
    }

    private static void isPassedOn(String what, boolean want, Consumer<NotaryKiosk> made) {
        String answer = Expect.told(() -> Made.by(made).passOn(0, 0, 3));
        Expect.is(what, answer, want ? "1" : "IllegalArgumentException");
    }

    static void termsNoOtherKindsThanItsSource() {
        Document.says(Document.TERMS, LESS);
        for (int scope = 1; scope < 64; scope++) {
            isPassedOn("the scope " + scope, (scope & ~9) == 0, sourceAndDraft(scope, 50, 70, 20, 1));
        }
    }

    static void termsNothingGreaterThanItsSource() {
        Document.says(Document.TERMS, LESS);
        for (int more = -1; more < 2; more++) {
            isPassedOn("the limit, " + more, more <= 0, sourceAndDraft(9, 50 + more, 70, 20, 1));
            isPassedOn("the total, " + more, more <= 0, sourceAndDraft(9, 50, 70 + more, 20, 1));
            isPassedOn("the last hour, " + more, more <= 0, sourceAndDraft(9, 50, 70, 20 + more, 1));
            Consumer<NotaryKiosk> hoursLater = sourceAndDraft(9, 50, 70, 15 + more, 1).andThen(y -> y.pass(5));
            isPassedOn("hours later, " + more, more <= 0, hoursLater);
        }
    }

    static void termsLessDepthThanItsSource() {
        Document.says(Document.TERMS, LESS);
        for (int depth = 0; depth < 4; depth++) {
            isPassedOn("the depth " + depth, depth < 2, sourceAndDraft(9, 50, 70, 20, depth));
        }
        NotaryKiosk x = Made.by(Made::longLine);
        x.draft(1, 1, 1, 0, 0);
        Expect.fails("the depth 0 is not passed on", Expect.ARGUMENT, () -> x.passOn(0, 3, 9));
        Expect.is("the depth 1 is", x.passOn(0, 2, 9), 4);
    }

    static void termsKnownRevokedAndOverByTheLine() {
        Document.says(Document.TERMS, BY_SOME_NEWS);
        NotaryKiosk x = Made.by(Made::longLine);
        x.join(0, 1);
        Expect.is("its line has not come", x.against(1, 5, 3, 1), 1);
        x.pass(1);
        x.read(1);
        Expect.is("its line is known", x.against(1, 5, 3, 1), 0);
        x.pass(9);
        Expect.is("the last hour of itself", x.against(1, 5, 3, 1), 0);
        x.pass(1);
        Expect.is("behind it", x.against(1, 5, 3, 1), 4);
        Expect.is("its source is not over", x.against(1, 4, 2, 1), 0);
        x.revoke(1, 1, 0);
        Expect.is("the first of its line is revoked", x.against(1, 4, 2, 1), 3);
        Expect.is("not by the news elsewhere", x.against(0, 4, 2, 1), 0);
    }

    static void termsDoneByAllInWhoseLineItIs() {
        Document.says(Document.TERMS, DONE);
        NotaryKiosk x = Made.by(Made::longLine);
        x.draft(1, 40, 50, 5, 0);
        x.passOn(0, 0, 9);
        int[] holders = {2, 3, 4, 5, 9};
        int[] amounts = {1, 2, 4, 8, 16};
        for (int power = 0; power < 5; power++) {
            x.act(0, holders[power], power, amounts[power]);
        }
        int[] done = {31, 14, 12, 8, 16};
        for (int power = 0; power < 5; power++) {
            Expect.is("with " + power, x.done(0, power), done[power]);
            Expect.is("by the news elsewhere nothing", x.done(1, power), 0);
        }
    }

    static void termsRevokedByAGiverOfItsLine() {
        Document.says(Document.TERMS, WHO_REVOKES);
        for (int person = 0; person < 10; person++) {
            int by = person;
            boolean gives = person >= 1 && person <= 3;
            Expect.is("by " + person, Expect.told(() -> Made.by(Made::longLine).revoke(0, by, 2)),
                    gives ? "4" : "IllegalArgumentException");
        }
    }

    // ---- deputies

    private static void onePowerEverywhere(NotaryKiosk y) {
        for (int kiosk = 0; kiosk < 6; kiosk++) {
            y.grant(kiosk, 1, 2);
        }
        Made.joinedInARow(y);
    }

    private static int reasonOf(NotaryKiosk x, int kiosk, int officer) {
        x.prepare(officer, 0);
        return x.against(kiosk, 2, kiosk, 1);
    }

    static void termsEachKioskHasANotary() {
        Document.says(Document.TERMS, "Each kiosk has a notary.");
        NotaryKiosk x = Made.by(TermsSentences::onePowerEverywhere);
        for (int kiosk = 0; kiosk < 6; kiosk++) {
            Expect.is("who acts at " + kiosk, reasonOf(x, kiosk, 0), 0);
            Expect.is("and no deputy", reasonOf(x, kiosk, 1), 8);
        }
    }

    static void termsFromOneHourToAnotherBothIncluded() {
        Document.says(Document.TERMS, DEPUTATIONS);
        for (int kiosk = 0; kiosk < 6; kiosk++) {
            NotaryKiosk x = Made.by(TermsSentences::onePowerEverywhere);
            Expect.is("made at the chamber", x.came(0, x.depute(kiosk, 10, 2)), 0);
            Made.passAndReadAll(x);
            for (int hour = 9; hour < 14; hour++) {
                Made.passTo(x, hour);
                boolean deputed = hour >= 10 && hour <= 12;
                Expect.is("the notary of " + kiosk + " in " + hour, reasonOf(x, kiosk, 0), deputed ? 8 : 0);
                Expect.is("the deputy of " + kiosk + " in " + hour, reasonOf(x, kiosk, 1), deputed ? 0 : 8);
                Expect.is("the deputy of another one", reasonOf(x, (kiosk + 1) % 6, 1), 8);
            }
        }
    }

    static void termsNoTwoDeputationsHaveAnHourInCommon() {
        Document.says(Document.TERMS, NO_TWO);
        for (int from = 0; from < 9; from++) {
            for (int hours = 0; hours < 9; hours++) {
                NotaryKiosk x = new NotaryKiosk();
                x.depute(2, 3, 2);
                int first = from;
                int behind = hours;
                boolean common = from <= 5 && from + hours >= 3;
                String want = common ? "IllegalStateException" : "1";
                Expect.is(from + " and " + hours, Expect.told(() -> x.depute(2, first, behind)), want);
                Expect.is("for another kiosk", Expect.told(() -> x.depute(1, first, behind)), common ? "1" : "2");
            }
        }
    }

    static void termsTheDeputyActsByTheNewsThere() {
        Document.says(Document.TERMS, WHO_ACTS);
        NotaryKiosk x = new NotaryKiosk();
        x.grant(0, 1, 2);
        x.grant(1, 1, 2);
        x.depute(1, 0, 100);
        x.join(0, 1);
        Expect.is("not come: the notary", reasonOf(x, 1, 0), 0);
        x.pass(1);
        Expect.is("in the mail: the notary", reasonOf(x, 1, 0), 0);
        x.read(1);
        Expect.is("read: the deputy", reasonOf(x, 1, 1), 0);
        Expect.is("read: no longer the notary", reasonOf(x, 1, 0), 8);
        Expect.is("at the kiosk 0 it is not for, the notary", reasonOf(x, 0, 0), 0);
    }

    // ---- acts

    static void termsWhatAnActHas() {
        Document.says(Document.TERMS, AN_ACT);
        NotaryKiosk x = new NotaryKiosk();
        x.grant(4, 1, 2);
        x.grant(0, 3, 9);
        x.prepare(0, 5);
        x.act(4, 2, 0, 1);
        x.depute(0, 0, 0);
        x.prepare(1, 0);
        x.act(0, 9, 1, 10000);
        int[][] parts = {{2, 0, 5, 1, 0, 0}, {9, 1, 0, 10000, 1, 0}};
        for (int part = 0; part < 6; part++) {
            Expect.is("by the notary, part " + part, x.part(4, 0, part), parts[0][part]);
            Expect.is("by the deputy, part " + part, x.part(0, 0, part), parts[1][part]);
        }
    }

    static void termsAmountsFrom1To10000() {
        Document.says(Document.TERMS, AN_ACT);
        for (int amount : new int[] {Integer.MIN_VALUE, -1, 0, 10001, Integer.MAX_VALUE}) {
            Expect.changesNothing("act " + amount, Expect.ARGUMENT, Made::someOfAll, y -> y.act(1, 2, 0, amount));
            Expect.changesNothing("why " + amount, Expect.ARGUMENT, Made::someOfAll, y -> y.against(1, 2, 0, amount));
            Expect.changesNothing("choices " + amount, Expect.ARGUMENT, Made::someOfAll, y -> y.choices(1, 2, amount));
        }
    }

    /** There are a power, and an hour, in which all reasons hold; each time one more is taken away. */
    static void termsTheFirstReasonThatHolds() {
        Document.says(Document.TERMS, REASONS);
        NotaryKiosk x = new NotaryKiosk();
        x.draft(1, 10, 10, 0, 0);
        x.grant(0, 1, 2);
        x.act(0, 2, 0, 10);
        x.revoke(0, 1, 0);
        x.prepare(1, 1);
        x.pass(1);
        Expect.is("1 ahead of the others", x.against(1, 3, 0, 11), 1);
        Expect.is("2 ahead of the others", x.against(0, 3, 0, 11), 2);
        Expect.is("3 ahead of the others", x.against(0, 2, 0, 11), 3);
        NotaryKiosk over = Made.by(TermsSentences::usedUp);
        over.pass(1);
        Expect.is("4 ahead of the others", over.against(0, 2, 0, 11), 4);
        NotaryKiosk now = Made.by(TermsSentences::usedUp);
        Expect.is("5 ahead of the others", now.against(0, 2, 0, 11), 5);
        now.prepare(1, 0);
        Expect.is("6 ahead of the others", now.against(0, 2, 0, 11), 6);
        Expect.is("7 ahead of 8", now.against(0, 2, 0, 10), 7);
        now.grant(0, 1, 2);
        Expect.is("8", now.against(0, 2, 1, 10), 8);
    }

    private static void usedUp(NotaryKiosk y) {
        y.draft(1, 10, 10, 0, 0);
        y.grant(0, 1, 2);
        y.act(0, 2, 0, 10);
        y.prepare(1, 1);
    }

    static void termsTheReasonsOfItsScopeAndItsLine() {
        Document.says(Document.TERMS, REASONS);
        NotaryKiosk x = Made.by(Made::longLine);
        x.prepare(0, 3);
        Expect.is("5 in the scope of its source, not in its own", x.against(0, 5, 3, 1), 5);
        x.prepare(0, 2);
        Expect.is("5 in its own", x.against(0, 5, 3, 1), 0);
        Expect.is("6 its own limit itself", x.against(0, 5, 3, 40), 0);
        Expect.is("6 above its own limit", x.against(0, 5, 3, 41), 6);
        Expect.is("6 the limit of its source is greater", x.against(0, 4, 2, 41), 0);
        x.act(0, 4, 2, 60);
        x.act(0, 4, 2, 30);
        Expect.is("7 up to the total of its source", x.against(0, 5, 3, 30), 0);
        Expect.is("7 above the total of its source, not its own", x.against(0, 5, 3, 31), 7);
        x.act(0, 2, 0, 100);
        Expect.is("7 up to the total of the first one", x.against(0, 5, 3, 10), 0);
        Expect.is("7 above the total of the first one", x.against(0, 5, 3, 11), 7);
    }

    static void termsZeroIfNoneHolds() {
        Document.says(Document.TERMS, "It is 0 if none holds.");
        NotaryKiosk x = new NotaryKiosk();
        x.draft(4, 10, 10, 2, 0);
        x.grant(3, 1, 2);
        x.depute(3, 0, 10);
        x.pass(2);
        x.prepare(0, 2);
        Expect.is("just within all", x.against(3, 2, 0, 10), 0);
        x.act(3, 2, 0, 10);
        Expect.is("when it was made", x.fault(3, 0), 0);
    }

    static void termsMadeOnlyWithoutAReasonNow() {
        Document.says(Document.TERMS, MADE_ONLY);
        NotaryKiosk x = new NotaryKiosk();
        x.draft(1, 10, 20, 2, 0);
        x.grant(0, 1, 2);
        for (int hour = 0; hour < 4; hour++) {
            int now = hour;
            Expect.is("the reason in " + hour, x.against(0, 2, 0, 5), hour < 3 ? 0 : 4);
            Expect.is("made in " + hour, Expect.told(() -> x.act(0, 2, 0, 5)),
                    hour < 3 ? String.valueOf(now) : "IllegalStateException");
            x.pass(1);
        }
        Expect.is("so many were made", x.records(0), 3);
        NotaryKiosk unread = Made.by(TermsSentences::revocationInTheMail);
        Expect.is("by what is read, though it will not stand", unread.act(1, 2, 0, 1), 0);
    }

    static void termsStandsByWhatCouldHaveBeenReadInItsHour() {
        Document.says(Document.TERMS, STANDS);
        NotaryKiosk revoked = Made.by(TermsSentences::revocationInTheMail);
        revoked.act(1, 2, 0, 1);
        Expect.is("revoked by the mail", revoked.fault(1, 0), 3);
        NotaryKiosk x = Made.by(TermsSentences::usedUpInTheMail);
        x.act(1, 2, 0, 40);
        x.act(1, 2, 0, 1);
        Expect.is("within the total by the mail", x.fault(1, 0), 0);
        Expect.is("above the total by the mail", x.fault(1, 1), 7);
        x.depute(1, 0, 9);
        x.pass(1);
        x.grant(1, 1, 2);
        x.act(1, 2, 1, 1);
        Expect.is("the deputy acts by the mail", x.fault(1, 2), 8);
        x.read(1);
        x.pass(50);
        boolean[] stands = {true, false, false};
        for (int record = 0; record < 3; record++) {
            Expect.is("in its hour, not now", x.stands(1, record), stands[record]);
            Expect.is("told once more", x.fault(1, record) == 0, stands[record]);
        }
    }

    /** The kiosk 1 has read a power with a total of 100, but not that 60 of it are done. */
    private static void usedUpInTheMail(NotaryKiosk y) {
        y.draft(63, 60, 100, 50, 0);
        y.grant(0, 1, 2);
        y.join(0, 1);
        y.pass(1);
        y.read(1);
        y.act(0, 2, 0, 60);
        y.pass(1);
    }

    private TermsSentences() {
    }
}
