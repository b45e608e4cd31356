import java.util.function.Consumer;

/** The sentences of promises 6 to 10: the draft, powers, revocations, deputations. */
final class PowersSentences {

    private static final String NOT_WITHIN = "Throws `IllegalArgumentException` if the holder of the source is the "
            + "person, or the draft is not within the source";
    private static final String PASSED_ON_NOW = "Throws `IllegalStateException` if there are 40 powers, or 160 "
            + "pieces of news, or by what the kiosk has read the source is not known, revoked, or over now";
    private static final String GRANTED_NOW = "Throws `IllegalStateException` if there are 40 powers, or 160 pieces "
            + "of news";
    private static final String REVOKED_NOW = "Throws `IllegalStateException` if there are 160 pieces of news, or "
            + "by what the kiosk has read the power is not known, or is revoked";
    private static final String DEPUTED_NOW = "Throws `IllegalStateException` if there are 160 pieces of news, or a "
            + "deputation for the kiosk has an hour in common with it";
    private static final String FROM = "- `from`: 0 to 100: its first hour is that of now and so many";
    private static final String HOURS = "- `hours`: 0 to 100: its last hour is so many behind the first one";
    private static final String RETURNS_PIECE = "Returns the piece of news.";

    // ---- promise 6

    static void promise6TellsTheNextPowers() {
        Document.says(6, "Sets the draft, which tells the next powers.");
        NotaryKiosk x = new NotaryKiosk();
        x.grant(0, 1, 2);
        x.draft(63, 30, 100, 9, 0);
        x.grant(0, 1, 2);
        x.grant(5, 1, 2);
        x.draft(63, 40, 100, 9, 0);
        x.grant(0, 1, 2);
        Expect.is("not the one ahead of it", x.against(0, 2, 0, 10000), 0);
        Expect.is("the next one", x.against(0, 2, 1, 30), 0);
        Expect.is("no more than it tells", x.against(0, 2, 1, 31), 6);
        Expect.is("the one behind, at any kiosk", x.against(5, 2, 2, 31), 6);
        Expect.is("a draft is in place of the one ahead of it", x.against(0, 2, 3, 40), 0);
        Expect.is("and no longer", x.against(0, 2, 3, 41), 6);
    }

    static void promise6KindsFrom1To63() {
        Document.says(6, "- `scope`: 1 to 63: kinds of acts");
        for (int scope : new int[] {1, 2, 32, 33, 62, 63}) {
            NotaryKiosk x = new NotaryKiosk();
            x.draft(scope, 10, 10, 0, 0);
            x.grant(0, 1, 2);
            for (int kind = 0; kind < 6; kind++) {
                x.prepare(0, kind);
                Expect.is(scope + " and the kind " + kind, x.against(0, 2, 0, 1), (scope >> kind & 1) == 1 ? 0 : 5);
            }
        }
        Calls.outOfRange("draft", 0);
    }

    static void promise6LimitsFrom1To10000() {
        Document.says(6, "- `limit`: 1 to 10000");
        NotaryKiosk x = new NotaryKiosk();
        x.draft(63, 1, 100000, 0, 0);
        x.grant(0, 1, 2);
        Expect.is("1 of 1", x.against(0, 2, 0, 1), 0);
        Expect.is("2 of 1", x.against(0, 2, 0, 2), 6);
        x.draft(63, 10000, 100000, 0, 0);
        x.grant(0, 1, 2);
        Expect.is("10000 of 10000", x.against(0, 2, 1, 10000), 0);
        x.draft(63, 9999, 100000, 0, 0);
        x.grant(0, 1, 2);
        Expect.is("10000 of 9999", x.against(0, 2, 2, 10000), 6);
        Calls.outOfRange("draft", 1);
    }

    static void promise6TotalsFrom1To100000() {
        Document.says(6, "- `total`: 1 to 100000");
        NotaryKiosk x = new NotaryKiosk();
        x.draft(63, 10000, 1, 0, 0);
        x.grant(0, 1, 2);
        Expect.is("2 of 1", x.against(0, 2, 0, 2), 7);
        x.act(0, 2, 0, 1);
        Expect.is("1 of 1 is done", x.against(0, 2, 0, 1), 7);
        x.draft(63, 10000, 100000, 0, 0);
        x.grant(0, 1, 2);
        for (int act = 0; act < 10; act++) {
            Expect.passes("10000 of 100000", () -> x.act(0, 2, 1, 10000));
        }
        Expect.is("100000 of 100000 are done", x.against(0, 2, 1, 1), 7);
        Calls.outOfRange("draft", 2);
    }

    static void promise6HoursFrom0To400() {
        Document.says(6, "- `hours`: 0 to 400: the last hour is that of making and so many");
        lastsFor(0, 0);
        lastsFor(0, 1);
        lastsFor(7, 0);
        lastsFor(7, 3);
        lastsFor(100, 299);
        NotaryKiosk x = Made.by(Made::nothing);
        x.draft(63, 1, 1, 400, 0);
        x.grant(0, 1, 2);
        Made.passTo(x, 400);
        Expect.is("400 hours", x.isGood(0, 0), true);
        x.grant(0, 1, 2);
        Expect.is("as many behind the hour 400", x.isGood(0, 1), true);
        Calls.outOfRange("draft", 3);
    }

    private static void lastsFor(int hour, int hours) {
        NotaryKiosk x = Made.by(Made.inTheHour(hour));
        x.draft(63, 1, 1, hours, 0);
        x.grant(0, 1, 2);
        Made.passTo(x, hour + hours);
        Expect.is(hours + " hours from " + hour + ", the last one", x.isGood(0, 0), true);
        x.pass(1);
        Expect.is(hours + " hours from " + hour + ", then", x.isGood(0, 0), false);
    }

    static void promise6DepthsFrom0To3() {
        Document.says(6, "- `depth`: 0 to 3");
        for (int depth = 0; depth < 4; depth++) {
            NotaryKiosk x = new NotaryKiosk();
            x.draft(1, 1, 1, 0, depth);
            x.grant(0, 1, 2);
            for (int less = 0; less < 4; less++) {
                x.draft(1, 1, 1, 0, less);
                String want = less < depth ? String.valueOf(less + 1) : "IllegalArgumentException";
                Expect.is(less + " within " + depth, Expect.told(() -> x.passOn(0, 0, 3)), want);
            }
        }
        Calls.outOfRange("draft", 4);
    }

    static void promise6AnArgumentOutOfRange() {
        Document.says(6, "Throws `IllegalArgumentException` if an argument is out of range");
        Calls.outOfRange("draft");
        int[][] wrong = {{0, 0, 0, -1, -1}, {64, 10001, 100001, 401, 4}, {63, 10000, 100000, 400, 4}};
        for (int[] a : wrong) {
            Expect.changesNothing("more than one", Expect.ARGUMENT, Made::someOfAll,
                    y -> y.draft(a[0], a[1], a[2], a[3], a[4]));
        }
        Expect.passes("all at their least", () -> drafted(1, 1, 1, 0, 0));
        Expect.passes("all at their most", () -> drafted(63, 10000, 100000, 400, 3));
    }

    private static String drafted(int scope, int limit, int total, int hours, int depth) {
        new NotaryKiosk().draft(scope, limit, total, hours, depth);
        return "drafted";
    }

    // ---- promise 7

    static void promise7AsTheDraftTells() {
        Document.says(7, "Grants a power, as the draft tells.");
        NotaryKiosk x = Made.by(Made.inTheHour(5));
        x.draft(2, 30, 40, 1, 1);
        x.grant(4, 7, 8);
        Expect.is("its holder", x.holder(0), 8);
        Expect.is("it has no source", x.source(0), -1);
        Expect.is("made at its kiosk now", x.came(4, 0), 5);
        Expect.is("its scope", x.against(4, 8, 0, 1), 5);
        x.prepare(0, 1);
        Expect.is("its limit", x.against(4, 8, 0, 31), 6);
        x.act(4, 8, 0, 30);
        Expect.is("its total", x.against(4, 8, 0, 11), 7);
        Expect.is("within its total", x.against(4, 8, 0, 10), 0);
        x.draft(2, 1, 1, 0, 0);
        Expect.is("its depth", x.passOn(4, 0, 9), 1);
        x.pass(1);
        Expect.is("its last hour", x.isGood(4, 0), true);
        x.pass(1);
        Expect.is("behind it", x.isGood(4, 0), false);
        Expect.is("its giver", x.revoke(4, 7, 0), 3);
    }

    static void promise7AnotherPerson() {
        Document.says(7, "- `holder`: another person");
        NotaryKiosk x = new NotaryKiosk();
        Expect.is("the last one", x.grant(0, 0, 9), 0);
        Expect.is("the first one", x.grant(0, 9, 0), 1);
        Expect.is("the one behind", x.grant(0, 4, 5), 2);
        Expect.fails("not the giver", Expect.ARGUMENT, () -> x.grant(0, 4, 4));
        Expect.is("both the same as ahead of it", x.grant(0, 4, 5), 3);
    }

    static void promise7ItsNumber() {
        Document.says(7, "Returns its number.");
        NotaryKiosk x = Made.by(Made::onePower);
        Expect.is("behind one", x.grant(5, 1, 2), 1);
        x.passOn(0, 0, 3);
        Expect.is("behind one that is passed on", x.grant(0, 1, 2), 3);
        x.act(0, 2, 0, 1);
        x.depute(0, 1, 1);
        x.revoke(0, 1, 0);
        Expect.is("other news does not count", x.grant(0, 1, 2), 4);
        Expect.is("nor what was refused", Expect.told(() -> x.grant(0, 1, 1)), "IllegalArgumentException");
        Expect.is("the next one", x.grant(0, 1, 2), 5);
    }

    static void promise7NoSuchKioskOrPerson() {
        Document.says(7, "Throws `IndexOutOfBoundsException` if there is no such kiosk or person");
        Calls.noSuch("grant");
    }

    static void promise7GiverAndHolderAreTheSame() {
        Document.says(7, "Throws `IllegalArgumentException` if giver and holder are the same");
        for (int person = 0; person < 10; person++) {
            int one = person;
            Expect.changesNothing("the person " + one, Expect.ARGUMENT, Made::someOfAll, y -> y.grant(0, one, one));
        }
    }

    static void promise7There40Powers() {
        Document.says(7, GRANTED_NOW);
        NotaryKiosk x = Made.by(Made.withPowers(39));
        Expect.is("there are 39", x.grant(3, 1, 2), 39);
        Expect.is("then there are 40", x.powers(), 40);
        Expect.changesNothing("40", Expect.STATE, Made.withPowers(40), y -> y.grant(3, 1, 2));
        Expect.changesNothing("40, one of them passed on", Expect.STATE, y -> {
            Made.withPowers(39).accept(y);
            y.passOn(0, 0, 3);
        }, y -> y.grant(3, 1, 2));
    }

    static void promise7There160PiecesOfNews() {
        Document.says(7, GRANTED_NOW);
        NotaryKiosk x = Made.by(Made.withNews(159));
        Expect.is("there are 159", x.grant(0, 1, 2), 1);
        Expect.is("then there are 160", x.news(), 160);
        Expect.changesNothing("160", Expect.STATE, Made.withNews(160), y -> y.grant(0, 1, 2));
    }

    // ---- promise 8

    static void promise8TheHolderPassesItOn() {
        Document.says(8, "The holder of a power passes it on, as the draft tells.");
        NotaryKiosk x = Made.by(Made::longLine);
        x.draft(1, 30, 40, 5, 0);
        x.pass(1);
        x.passOn(0, 2, 9);
        Expect.is("its source", x.source(4), 2);
        Expect.is("its holder", x.holder(4), 9);
        Expect.is("made at its kiosk now", x.came(0, 4), 1);
        Expect.is("its limit", x.against(0, 9, 4, 31), 6);
        x.act(0, 9, 4, 30);
        Expect.is("its total", x.against(0, 9, 4, 11), 7);
        x.prepare(0, 1);
        Expect.is("its scope", x.against(0, 9, 4, 1), 5);
        x.pass(5);
        Expect.is("its last hour", x.isGood(0, 4), true);
        x.pass(1);
        Expect.is("behind it", x.isGood(0, 4), false);
        Expect.fails("its giver is not who got it", Expect.ARGUMENT, () -> x.revoke(0, 9, 4));
        Expect.is("its giver is the holder of its source", x.revoke(0, 4, 4), 6);
    }

    static void promise8AnotherPerson() {
        Document.says(8, "- `holder`: another person");
        for (int holder = 0; holder < 10; holder++) {
            int other = holder;
            String want = holder == 2 ? "IllegalArgumentException" : "1";
            Expect.is("to " + holder, Expect.told(() -> Made.by(Made::onePower).passOn(0, 0, other)), want);
        }
    }

    static void promise8ItsNumber() {
        Document.says(8, "Returns the number of the new power.");
        NotaryKiosk x = Made.by(Made::onePower);
        Expect.is("behind one", x.passOn(0, 0, 3), 1);
        x.grant(0, 1, 2);
        x.act(0, 2, 0, 1);
        Expect.is("behind three, not the number of the news", x.passOn(0, 0, 3), 3);
    }

    static void promise8NoSuchKioskPowerOrPerson() {
        Document.says(8, "Throws `IndexOutOfBoundsException` if there is no such kiosk, power or person");
        Calls.noSuch("passOn");
        Expect.changesNothing("no power at all", Expect.INDEX, Made::nothing, y -> y.passOn(0, 0, 1));
    }

    static void promise8TheHolderOfTheSourceIsThePerson() {
        Document.says(8, NOT_WITHIN);
        Expect.changesNothing("granted", Expect.ARGUMENT, Made::someOfAll, y -> y.passOn(0, 0, 2));
        Expect.changesNothing("passed on", Expect.ARGUMENT, Made::longLine, y -> y.passOn(0, 2, 4));
        Expect.passes("the giver of the source", () -> Made.by(Made::longLine).passOn(0, 2, 3));
    }

    /** A source of the kinds 1, 2 and 4, the limit 100, the total 1000, the last hour 50 and the depth 2. */
    private static Consumer<NotaryKiosk> sourceAndDraft(int scope, int limit, int total, int hours, int depth) {
        return y -> {
            y.draft(22, 100, 1000, 50, 2);
            y.grant(0, 1, 2);
            y.draft(scope, limit, total, hours, depth);
        };
    }

    private static void isNotWithin(String what, Consumer<NotaryKiosk> made) {
        Expect.changesNothing(what, Expect.ARGUMENT, made, y -> y.passOn(0, 0, 3));
    }

    private static void isWithin(String what, Consumer<NotaryKiosk> made) {
        Expect.is(what, Expect.told(() -> Made.by(made).passOn(0, 0, 3)), "1");
    }

    static void promise8TheDraftIsNotWithinTheSource() {
        Document.says(8, NOT_WITHIN);
        isWithin("the most there is", sourceAndDraft(22, 100, 1000, 50, 1));
        isWithin("the least there is", sourceAndDraft(2, 1, 1, 0, 0));
        for (int kind : new int[] {0, 3, 5}) {
            isNotWithin("the kind " + kind, sourceAndDraft(22 | 1 << kind, 100, 1000, 50, 1));
            isNotWithin("the kind " + kind + " alone", sourceAndDraft(1 << kind, 100, 1000, 50, 1));
        }
        isNotWithin("the limit", sourceAndDraft(22, 101, 1000, 50, 1));
        isNotWithin("the total", sourceAndDraft(22, 100, 1001, 50, 1));
        isNotWithin("the last hour", sourceAndDraft(22, 100, 1000, 51, 1));
        isNotWithin("the same depth", sourceAndDraft(22, 100, 1000, 50, 2));
        isNotWithin("greater depth", sourceAndDraft(22, 100, 1000, 50, 3));
    }

    static void promise8TheLastHourIsCountedFromNow() {
        Document.says(8, NOT_WITHIN);
        isWithin("the last hour is that of the source", sourceAndDraft(22, 100, 1000, 40, 1).andThen(y -> y.pass(10)));
        isNotWithin("the hour behind it", sourceAndDraft(22, 100, 1000, 41, 1).andThen(y -> y.pass(10)));
        isWithin("in the last hour of the source", sourceAndDraft(22, 100, 1000, 0, 1).andThen(y -> y.pass(50)));
        isNotWithin("no hours behind that", sourceAndDraft(22, 100, 1000, 0, 1).andThen(y -> Made.passTo(y, 51)));
    }

    static void promise8There40Powers() {
        Document.says(8, PASSED_ON_NOW);
        Expect.is("39", Made.by(Made.withPowers(39)).passOn(0, 0, 3), 39);
        Expect.changesNothing("40", Expect.STATE, Made.withPowers(40), y -> y.passOn(0, 0, 3));
    }

    static void promise8There160PiecesOfNews() {
        Document.says(8, PASSED_ON_NOW);
        Expect.is("159", Made.by(Made.withNews(159)).passOn(0, 0, 3), 1);
        Expect.changesNothing("160", Expect.STATE, Made.withNews(160), y -> y.passOn(0, 0, 3));
    }

    static void promise8TheSourceIsNotKnown() {
        Document.says(8, PASSED_ON_NOW);
        Expect.changesNothing("not come", Expect.STATE, Made::onePower, y -> y.passOn(1, 0, 3));
        Expect.changesNothing("not read", Expect.STATE, PowersSentences::onePowerInTheMail, y -> y.passOn(1, 0, 3));
        NotaryKiosk x = Made.by(PowersSentences::onePowerInTheMail);
        x.read(1);
        Expect.is("read", x.passOn(1, 0, 3), 1);
    }

    private static void onePowerInTheMail(NotaryKiosk y) {
        Made.onePower(y);
        y.join(0, 1);
        y.pass(1);
        y.draft(63, 10, 1000, 5, 0);
    }

    static void promise8TheSourceIsRevoked() {
        Document.says(8, PASSED_ON_NOW);
        for (int revoked = 0; revoked < 3; revoked++) {
            int one = revoked;
            Consumer<NotaryKiosk> made = y -> {
                Made.longLine(y);
                y.draft(1, 1, 1, 1, 0);
                y.revoke(0, one + 1, one);
            };
            Expect.changesNothing("in its line", Expect.STATE, made, y -> y.passOn(0, 2, 9));
        }
        NotaryKiosk x = Made.by(PowersSentences::revokedInTheMail);
        Expect.is("revoked elsewhere, not read here", x.passOn(1, 0, 3), 1);
        Expect.changesNothing("read here", Expect.STATE, PowersSentences::revokedAndRead, y -> y.passOn(1, 0, 3));
    }

    private static void revokedInTheMail(NotaryKiosk y) {
        onePowerInTheMail(y);
        y.read(1);
        y.revoke(0, 1, 0);
        y.pass(1);
    }

    private static void revokedAndRead(NotaryKiosk y) {
        revokedInTheMail(y);
        y.read(1);
    }

    /** No draft is within a source that is over, so that this is never the exception that is named first. */
    static void promise8TheSourceIsOver() {
        Document.says(8, PASSED_ON_NOW);
        Consumer<NotaryKiosk> last = sourceAndDraft(2, 1, 1, 0, 0).andThen(Made.inTheHour(50));
        Expect.is("its last hour", Expect.told(() -> Made.by(last).passOn(0, 0, 3)), "1");
        Consumer<NotaryKiosk> over = sourceAndDraft(2, 1, 1, 0, 0).andThen(Made.inTheHour(51));
        Expect.changesNothing("the hour behind it", Expect.ARGUMENT, over, y -> y.passOn(0, 0, 3));
    }

    // ---- promise 9

    static void promise9RevokesAPower() {
        Document.says(9, "Revokes a power.");
        NotaryKiosk x = Made.by(Made::longLine);
        x.revoke(0, 2, 1);
        Expect.is("not its source", x.isGood(0, 0), true);
        Expect.is("the power", x.isGood(0, 1), false);
        Expect.is("what was passed on from it", x.isGood(0, 2), false);
        Expect.is("and from that", x.isGood(0, 3), false);
        Expect.is("for good", x.against(0, 3, 1, 1), 3);
    }

    static void promise9ThePieceOfNews() {
        Document.says(9, RETURNS_PIECE);
        NotaryKiosk x = Made.by(Made::longLine);
        Expect.is("behind four powers", x.revoke(0, 4, 3), 4);
        x.act(0, 4, 2, 1);
        Expect.is("behind an act", x.revoke(0, 1, 0), 6);
        Expect.is("made at its kiosk", x.came(0, 6), 0);
        Expect.is("read there at once", x.isRead(0, 6), true);
    }

    static void promise9NoSuchKioskPersonOrPower() {
        Document.says(9, "Throws `IndexOutOfBoundsException` if there is no such kiosk, person or power");
        Calls.noSuch("revoke");
        Expect.changesNothing("no power at all", Expect.INDEX, Made::nothing, y -> y.revoke(0, 0, 0));
    }

    /** In the long line the power p is given by the person p + 1, and the persons 5 to 9 and 0 give none. */
    static void promise9TheGiverOfNoPowerOfItsLine() {
        Document.says(9, "Throws `IllegalArgumentException` if the person is the giver of no power of its line");
        for (int power = 0; power < 4; power++) {
            for (int person = 0; person < 10; person++) {
                int one = power;
                int by = person;
                String what = by + " revokes " + one;
                if (person >= 1 && person <= power + 1) {
                    Expect.is(what, Made.by(Made::longLine).revoke(0, by, one), 4);
                } else {
                    Expect.changesNothing(what, Expect.ARGUMENT, Made::longLine, y -> y.revoke(0, by, one));
                }
            }
        }
    }

    static void promise9There160PiecesOfNews() {
        Document.says(9, REVOKED_NOW);
        Expect.is("159", Made.by(Made.withNews(159)).revoke(0, 1, 0), 159);
        Expect.changesNothing("160", Expect.STATE, Made.withNews(160), y -> y.revoke(0, 1, 0));
    }

    static void promise9ThePowerIsNotKnown() {
        Document.says(9, REVOKED_NOW);
        Expect.changesNothing("not come", Expect.STATE, Made::onePower, y -> y.revoke(1, 1, 0));
        Expect.changesNothing("not read", Expect.STATE, PowersSentences::onePowerInTheMail, y -> y.revoke(1, 1, 0));
        NotaryKiosk x = Made.by(PowersSentences::onePowerInTheMail);
        x.read(1);
        Expect.is("read", x.revoke(1, 1, 0), 1);
    }

    static void promise9ThePowerIsRevoked() {
        Document.says(9, REVOKED_NOW);
        for (int revoked = 0; revoked < 4; revoked++) {
            int one = revoked;
            Consumer<NotaryKiosk> made = y -> {
                Made.longLine(y);
                y.revoke(0, 1, one);
            };
            Expect.changesNothing("by its line, from " + one, Expect.STATE, made, y -> y.revoke(0, 4, 3));
        }
        Expect.is("revoked elsewhere, not read here", Made.by(PowersSentences::revokedInTheMail).revoke(1, 1, 0), 2);
        Expect.changesNothing("read here", Expect.STATE, PowersSentences::revokedAndRead, y -> y.revoke(1, 1, 0));
        NotaryKiosk over = Made.by(Made::onePower);
        over.pass(11);
        Expect.is("over is not revoked", over.revoke(0, 1, 0), 1);
    }

    // ---- promise 10

    static void promise10AtTheKiosk0() {
        Document.says(10, "Makes a deputation, at the kiosk 0.");
        for (int kiosk = 0; kiosk < 6; kiosk++) {
            NotaryKiosk x = Made.by(Made.inTheHour(3));
            x.depute(kiosk, 0, 0);
            for (int at = 0; at < 6; at++) {
                Expect.is("for " + kiosk + ", came to " + at, x.came(at, 0), at == 0 ? 3 : -1);
                Expect.is("for " + kiosk + ", read at " + at, x.isRead(at, 0), at == 0);
            }
        }
    }

    /** A power of the person 2 at each kiosk, and everything read everywhere at the hour 5. */
    private static void deputed(NotaryKiosk y, int kiosk, int from, int hours) {
        y.draft(63, 10000, 100000, 400, 0);
        for (int at = 0; at < 6; at++) {
            y.grant(at, 1, 2);
        }
        Made.joinedInARow(y);
        y.depute(kiosk, from, hours);
        Made.passAndReadAll(y);
    }

    /** Who acts there in an hour that is that of now or later. */
    private static void officerIs(NotaryKiosk x, int kiosk, int hour, int officer) {
        Made.passTo(x, hour);
        x.prepare(officer, 0);
        Expect.is("officer " + officer + " at " + kiosk + " in " + hour, x.against(kiosk, 2, kiosk, 1), 0);
        x.prepare(1 - officer, 0);
        Expect.is("not the other one at " + kiosk + " in " + hour, x.against(kiosk, 2, kiosk, 1), 8);
    }

    static void promise10FromNowAndSoMany() {
        Document.says(10, FROM);
        NotaryKiosk x = Made.by(y -> deputed(y, 3, 20, 100));
        officerIs(x, 3, 19, 0);
        officerIs(x, 3, 20, 1);
        NotaryKiosk most = Made.by(y -> deputed(y, 5, 100, 0));
        officerIs(most, 5, 99, 0);
        officerIs(most, 5, 100, 1);
        NotaryKiosk later = Made.by(y -> deputed(y, 5, 0, 0));
        officerIs(later, 0, 7, 0);
        later.depute(0, 0, 0);
        officerIs(later, 0, 7, 1);
        later.depute(0, 3, 0);
        officerIs(later, 0, 9, 0);
        officerIs(later, 0, 10, 1);
    }

    static void promise10ToSoManyBehindThat() {
        Document.says(10, HOURS);
        NotaryKiosk x = Made.by(y -> deputed(y, 3, 20, 7));
        officerIs(x, 3, 27, 1);
        officerIs(x, 3, 28, 0);
        NotaryKiosk least = Made.by(y -> deputed(y, 4, 20, 0));
        officerIs(least, 4, 20, 1);
        officerIs(least, 4, 21, 0);
        NotaryKiosk most = Made.by(y -> deputed(y, 0, 100, 100));
        officerIs(most, 0, 200, 1);
        officerIs(most, 0, 201, 0);
    }

    static void promise10ThePieceOfNews() {
        Document.says(10, RETURNS_PIECE);
        NotaryKiosk x = Made.by(Made::onePower);
        Expect.is("behind a power", x.depute(3, 0, 0), 1);
        x.act(0, 2, 0, 1);
        Expect.is("behind an act", x.depute(3, 1, 0), 3);
    }

    static void promise10NoSuchKiosk() {
        Document.says(10, "Throws `IndexOutOfBoundsException` if there is no such kiosk");
        Calls.noSuch("depute");
    }

    static void promise10FromOrHoursOutOfRange() {
        Document.says(10, "Throws `IllegalArgumentException` if from or hours is out of range");
        Calls.outOfRange("depute");
        Expect.changesNothing("together within, but each is not", Expect.ARGUMENT, Made::someOfAll,
                y -> y.depute(3, 101, -1));
        Expect.changesNothing("the greatest there are", Expect.ARGUMENT, Made::someOfAll,
                y -> y.depute(3, Integer.MAX_VALUE, Integer.MAX_VALUE));
    }

    static void promise10There160PiecesOfNews() {
        Document.says(10, DEPUTED_NOW);
        Expect.is("159", Made.by(Made.withNews(159)).depute(2, 0, 0), 159);
        Expect.changesNothing("160", Expect.STATE, Made.withNews(160), y -> y.depute(2, 0, 0));
    }

    /** In the hour 5 there is one for the kiosk 1, of the hours 10 to 15. */
    private static void deputedFrom10To15(NotaryKiosk y) {
        y.pass(5);
        y.depute(1, 5, 5);
    }

    static void promise10AnHourInCommon() {
        Document.says(10, DEPUTED_NOW);
        int[][] common = {{5, 5}, {0, 5}, {10, 0}, {5, 0}, {7, 1}, {0, 100}, {10, 90}, {4, 1}};
        for (int[] a : common) {
            Expect.changesNothing(a[0] + " and " + a[1], Expect.STATE, PowersSentences::deputedFrom10To15,
                    y -> y.depute(1, a[0], a[1]));
        }
        int[][] free = {{0, 4}, {4, 0}, {11, 0}, {11, 100}, {100, 100}};
        for (int[] a : free) {
            Expect.is(a[0] + " and " + a[1], Made.by(PowersSentences::deputedFrom10To15).depute(1, a[0], a[1]), 1);
        }
        Expect.is("for another kiosk", Made.by(PowersSentences::deputedFrom10To15).depute(2, 5, 5), 1);
    }

    static void promise10InCommonWithOneOfSeveral() {
        Document.says(10, DEPUTED_NOW);
        Consumer<NotaryKiosk> three = y -> {
            y.depute(1, 10, 2);
            y.depute(1, 0, 2);
            y.depute(1, 5, 2);
            y.depute(2, 3, 1);
        };
        for (int from : new int[] {0, 2, 5, 7, 10, 12}) {
            Expect.changesNothing("in common from " + from, Expect.STATE, three, y -> y.depute(1, from, 0));
        }
        for (int from : new int[] {3, 4, 8, 9, 13}) {
            Expect.is("free from " + from, Made.by(three).depute(1, from, 0), 4);
        }
        Expect.changesNothing("over a gap", Expect.STATE, three, y -> y.depute(1, 3, 2));
    }

    private PowersSentences() {
    }
}
