/** The sentences of promises 1 to 5: a new object, kiosks, hours, mail. */
final class KiosksSentences {

    private static final String NEW_OBJECT = "No news; no kiosks are joined; the hour 0; the draft allows all "
            + "kinds, 10000, 100000, 100 hours and the depth 0.";
    private static final String NO_SUCH_KIOSK = "Throws `IndexOutOfBoundsException` if there is no such kiosk";
    private static final String BOTH_THE_SAME = "Throws `IllegalArgumentException` if both are the same";
    private static final String HOW_MANY_JOINED = "Returns to how many kiosks the first one is joined then.";
    private static final String ABOVE_400 = "Throws `IllegalStateException` if the hour would be above 400";

    // ---- promise 1

    static void promise1NoNews() {
        Document.says(1, NEW_OBJECT);
        NotaryKiosk x = new NotaryKiosk();
        Expect.is("news", x.news(), 0);
        Expect.is("powers", x.powers(), 0);
        Expect.is("standing", x.standing(), 0);
        for (int kiosk = 0; kiosk < 6; kiosk++) {
            int at = kiosk;
            Expect.is("mail of " + kiosk, x.mail(kiosk), 0);
            Expect.is("records of " + kiosk, x.records(kiosk), 0);
            Expect.is("nothing to read at " + kiosk, x.read(kiosk), 0);
            Expect.is("nothing is broken at " + kiosk, x.broken(kiosk), -1);
            Expect.is("nobody has a choice at " + kiosk, x.choices(kiosk, 2, 1), 0);
            Expect.fails("no piece 0", Expect.INDEX, () -> x.came(at, 0));
            Expect.fails("no record 0", Expect.INDEX, () -> x.stands(at, 0));
        }
        Expect.fails("no power 0", Expect.INDEX, () -> x.holder(0));
        Expect.fails("no copy 0", Expect.INDEX, () -> x.size(0));
    }

    static void promise1NoKiosksAreJoined() {
        Document.says(1, NEW_OBJECT);
        NotaryKiosk x = new NotaryKiosk();
        for (int kiosk = 0; kiosk < 6; kiosk++) {
            for (int other = 0; other < 6; other++) {
                Expect.is(kiosk + " and " + other, x.areJoined(kiosk, other), false);
            }
            x.grant(kiosk, 1, 2);
        }
        Expect.is("nothing comes anywhere", x.pass(50), 0);
    }

    static void promise1TheHourIs0() {
        Document.says(1, NEW_OBJECT);
        NotaryKiosk x = new NotaryKiosk();
        Expect.is("hour", x.hour(), 0);
        x.grant(3, 1, 2);
        Expect.is("made in the hour 0", x.came(3, 0), 0);
    }

    static void promise1TheDraftAllowsAllKinds() {
        Document.says(1, NEW_OBJECT);
        NotaryKiosk x = new NotaryKiosk();
        x.grant(0, 1, 2);
        for (int kind = 0; kind < 6; kind++) {
            x.prepare(0, kind);
            Expect.is("kind " + kind, x.against(0, 2, 0, 1), 0);
        }
    }

    static void promise1TheDraftAllows10000And100000() {
        Document.says(1, NEW_OBJECT);
        NotaryKiosk x = new NotaryKiosk();
        x.grant(0, 1, 2);
        for (int act = 0; act < 10; act++) {
            Expect.is("10000 for each act", x.against(0, 2, 0, 10000), 0);
            x.act(0, 2, 0, 10000);
        }
        Expect.is("100000 are done", x.done(0, 0), 100000);
        Expect.is("no more than that", x.against(0, 2, 0, 1), 7);
    }

    static void promise1TheDraftAllows100Hours() {
        Document.says(1, NEW_OBJECT);
        NotaryKiosk x = new NotaryKiosk();
        x.grant(0, 1, 2);
        Made.passTo(x, 100);
        Expect.is("in the hour 100", x.isGood(0, 0), true);
        x.pass(1);
        Expect.is("in the hour 101", x.isGood(0, 0), false);
    }

    static void promise1TheDraftAllowsTheDepth0() {
        Document.says(1, NEW_OBJECT);
        NotaryKiosk x = new NotaryKiosk();
        x.grant(0, 1, 2);
        x.draft(1, 1, 1, 0, 0);
        Expect.fails("not passed on", Expect.ARGUMENT, () -> x.passOn(0, 0, 3));
    }

    // ---- promise 2

    static void promise2JoinsTwo() {
        Document.says(2, "Joins two kiosks.");
        for (int kiosk = 0; kiosk < 6; kiosk++) {
            for (int other = 0; other < 6; other++) {
                if (kiosk != other) {
                    joinsNoOthers(kiosk, other);
                }
            }
        }
    }

    private static void joinsNoOthers(int kiosk, int other) {
        NotaryKiosk x = new NotaryKiosk();
        x.join(kiosk, other);
        for (int one = 0; one < 6; one++) {
            for (int two = 0; two < 6; two++) {
                boolean want = one == kiosk && two == other || one == other && two == kiosk;
                Expect.is(kiosk + " with " + other + ": " + one + " and " + two, x.areJoined(one, two), want);
            }
        }
    }

    static void promise2AnotherOne() {
        Document.says(2, "- `other`: another one");
        NotaryKiosk x = new NotaryKiosk();
        Expect.is("the one behind it", x.join(0, 1), 1);
        Expect.is("the one ahead of it", x.join(1, 2), 2);
        Expect.fails("not itself", Expect.ARGUMENT, () -> x.join(1, 1));
        Expect.is("the last with the first", x.join(5, 0), 1);
    }

    static void promise2HowManyThen() {
        Document.says(2, HOW_MANY_JOINED);
        NotaryKiosk x = new NotaryKiosk();
        int[] others = {5, 0, 4, 1, 3};
        for (int joined = 0; joined < 5; joined++) {
            Expect.is("the first one counts", x.join(2, others[joined]), joined + 1);
        }
        Expect.is("of the first one, not of the other", x.join(0, 1), 2);
        Expect.is("all five", x.join(0, 3) + x.join(0, 4) + x.join(0, 5), 3 + 4 + 5);
    }

    static void promise2NoSuchKiosk() {
        Document.says(2, NO_SUCH_KIOSK);
        Calls.noSuch("join");
    }

    static void promise2BothTheSame() {
        Document.says(2, BOTH_THE_SAME);
        for (int kiosk = 0; kiosk < 6; kiosk++) {
            int one = kiosk;
            Expect.changesNothing("join " + one, Expect.ARGUMENT, Made::someOfAll, y -> y.join(one, one));
        }
        Expect.changesNothing("of all", Expect.ARGUMENT, Made::allJoined, y -> y.join(3, 3));
    }

    static void promise2TheyAreJoined() {
        Document.says(2, "Throws `IllegalStateException` if they are joined");
        Expect.changesNothing("once more", Expect.STATE, Made::someOfAll, y -> y.join(0, 1));
        Expect.changesNothing("the other way round", Expect.STATE, Made::someOfAll, y -> y.join(2, 1));
        for (int kiosk = 1; kiosk < 6; kiosk++) {
            int other = kiosk;
            Expect.changesNothing("all are", Expect.STATE, Made::allJoined, y -> y.join(0, other));
        }
        NotaryKiosk x = Made.by(Made::someOfAll);
        x.cut(0, 1);
        Expect.is("no longer joined", x.join(0, 1), 1);
    }

    // ---- promise 3

    static void promise3CutsTwoOff() {
        Document.says(3, "Cuts two kiosks off from one another.");
        for (int kiosk = 0; kiosk < 6; kiosk++) {
            for (int other = 0; other < 6; other++) {
                if (kiosk != other) {
                    cutsNoOthers(kiosk, other);
                }
            }
        }
    }

    private static void cutsNoOthers(int kiosk, int other) {
        NotaryKiosk x = Made.by(Made::allJoined);
        x.cut(kiosk, other);
        for (int one = 0; one < 6; one++) {
            for (int two = 0; two < 6; two++) {
                boolean cut = one == kiosk && two == other || one == other && two == kiosk;
                String what = kiosk + " from " + other + ": " + one + " and " + two;
                Expect.is(what, x.areJoined(one, two), one != two && !cut);
            }
        }
    }

    static void promise3AnotherOne() {
        Document.says(3, "- `other`: another one");
        NotaryKiosk x = Made.by(Made::allJoined);
        Expect.fails("not itself", Expect.ARGUMENT, () -> x.cut(1, 1));
        Expect.is("another one", x.cut(1, 0), 4);
        Expect.is("the last from the first", x.cut(5, 0), 4);
    }

    static void promise3HowManyThen() {
        Document.says(3, HOW_MANY_JOINED);
        NotaryKiosk x = Made.by(Made::allJoined);
        int[] others = {5, 0, 4, 1, 3};
        for (int cut = 0; cut < 5; cut++) {
            Expect.is("the first one counts", x.cut(2, others[cut]), 4 - cut);
        }
        Expect.is("of the first one, not of the other", x.cut(0, 1), 3);
    }

    static void promise3NoSuchKiosk() {
        Document.says(3, NO_SUCH_KIOSK);
        Calls.noSuch("cut");
    }

    static void promise3BothTheSame() {
        Document.says(3, BOTH_THE_SAME);
        for (int kiosk = 0; kiosk < 6; kiosk++) {
            int one = kiosk;
            Expect.changesNothing("cut " + one, Expect.ARGUMENT, Made::allJoined, y -> y.cut(one, one));
        }
        Expect.changesNothing("of none", Expect.ARGUMENT, Made::nothing, y -> y.cut(3, 3));
    }

    static void promise3TheyAreNotJoined() {
        Document.says(3, "Throws `IllegalStateException` if they are not joined");
        Expect.changesNothing("none are", Expect.STATE, Made::nothing, y -> y.cut(0, 1));
        Expect.changesNothing("joined through another one", Expect.STATE, Made::someOfAll, y -> y.cut(0, 2));
        Expect.changesNothing("cut already", Expect.STATE, KiosksSentences::cutTwo, y -> y.cut(0, 1));
        Expect.changesNothing("the other way round", Expect.STATE, KiosksSentences::cutTwo, y -> y.cut(1, 0));
    }

    private static void cutTwo(NotaryKiosk y) {
        Made.allJoined(y);
        y.cut(1, 0);
    }

    // ---- promise 4

    static void promise4OneHourAfterTheOther() {
        Document.says(4, "Lets hours pass, one after the other.");
        NotaryKiosk x = Made.by(Made::joinedInARow);
        x.grant(0, 1, 2);
        x.pass(3);
        Expect.is("so many hours", x.hour(), 3);
        for (int kiosk = 0; kiosk < 4; kiosk++) {
            Expect.is("one kiosk on in each hour", x.came(kiosk, 0), kiosk);
        }
        Expect.is("no further", x.came(4, 0), -1);
        x.pass(2);
        Expect.is("so many more", x.hour(), 5);
        Expect.is("goes on", x.came(5, 0), 5);
    }

    static void promise4FromEachKioskToEachOther() {
        Document.says(4, "Lets hours pass, one after the other.");
        for (int from = 0; from < 6; from++) {
            NotaryKiosk x = Made.by(Made::joinedInARow);
            x.grant(from, 1, 2);
            Expect.is("to the five others", x.pass(5), 5);
            for (int to = 0; to < 6; to++) {
                Expect.is(from + " to " + to, x.came(to, 0), Math.abs(from - to));
                Expect.is(from + " to " + to + " by links", x.cameByLinks(to, 0), Math.abs(from - to));
            }
        }
    }

    static void promise4OneTo50Hours() {
        Document.says(4, "- `hours`: 1 to 50");
        NotaryKiosk x = new NotaryKiosk();
        x.pass(1);
        Expect.is("1", x.hour(), 1);
        x.pass(50);
        Expect.is("50", x.hour(), 51);
        Expect.fails("0", Expect.ARGUMENT, () -> x.pass(0));
        Expect.fails("51", Expect.ARGUMENT, () -> x.pass(51));
        x.pass(49);
        Expect.is("49", x.hour(), 100);
    }

    static void promise4HowManyTimesNewsComes() {
        Document.says(4, "Returns how many times a piece of news comes to a kiosk by that.");
        NotaryKiosk x = Made.by(Made::joinedInARow);
        Expect.is("no news", x.pass(50), 0);
        x.grant(0, 1, 2);
        Expect.is("one piece, one kiosk", x.pass(1), 1);
        Expect.is("one piece, four kiosks", x.pass(50), 4);
        Expect.is("it is everywhere", x.pass(50), 0);
        x.grant(2, 1, 2);
        x.grant(2, 1, 2);
        Expect.is("two pieces, two kiosks", x.pass(1), 4);
        Expect.is("two pieces, the other three kiosks", x.pass(2), 6);
        NotaryKiosk full = Made.by(Made.withNews(160));
        Made.allJoined(full);
        Expect.is("all news to all kiosks", full.pass(1), 160 * 5);
        Expect.is("and not once more", full.pass(1), 0);
    }

    static void promise4HoursOutOfRange() {
        Document.says(4, "Throws `IllegalArgumentException` if hours is out of range");
        Calls.outOfRange("pass");
    }

    static void promise4ToTheHour400() {
        Document.says(4, ABOVE_400);
        NotaryKiosk x = Made.by(Made.inTheHour(350));
        Expect.passes("50 hours to 400", () -> x.pass(50));
        Expect.is("the hour", x.hour(), 400);
        NotaryKiosk last = Made.by(Made.inTheHour(399));
        Expect.passes("the last hour", () -> last.pass(1));
        Expect.is("the hour", last.hour(), 400);
    }

    static void promise4NotAboveTheHour400() {
        Document.says(4, ABOVE_400);
        Expect.changesNothing("351 and 50", Expect.STATE, y -> newsInTheHour(y, 351), y -> y.pass(50));
        Expect.changesNothing("399 and 2", Expect.STATE, y -> newsInTheHour(y, 399), y -> y.pass(2));
        Expect.changesNothing("400 and 1", Expect.STATE, y -> newsInTheHour(y, 400), y -> y.pass(1));
        Expect.changesNothing("400 and 50", Expect.STATE, y -> newsInTheHour(y, 400), y -> y.pass(50));
    }

    private static void newsInTheHour(NotaryKiosk y, int hour) {
        Made.passTo(y, hour);
        Made.allJoined(y);
        y.grant(0, 1, 2);
    }

    // ---- promise 5

    static void promise5ReadsItsMail() {
        Document.says(5, "A kiosk reads its mail.");
        NotaryKiosk x = Made.by(Made::allJoined);
        x.grant(0, 1, 2);
        x.pass(1);
        x.read(1);
        Expect.is("it has read", x.isRead(1, 0), true);
        Expect.is("its mail is empty", x.mail(1), 0);
        Expect.is("it knows what it read", x.isGood(1, 0), true);
        for (int kiosk = 2; kiosk < 6; kiosk++) {
            Expect.is("another one has not", x.isRead(kiosk, 0), false);
            Expect.is("the mail of another one is not", x.mail(kiosk), 1);
        }
    }

    static void promise5HowManyPieces() {
        Document.says(5, "Returns how many pieces of news it reads.");
        NotaryKiosk x = Made.by(Made::allJoined);
        Expect.is("no mail", x.read(1), 0);
        x.grant(0, 1, 2);
        x.grant(1, 1, 2);
        Expect.is("its own is read at once", x.read(1), 0);
        x.pass(1);
        Expect.is("one", x.read(1), 1);
        Expect.is("not once more", x.read(1), 0);
        Expect.is("two at another one", x.read(2), 2);
        x.depute(3, 0, 0);
        x.act(0, 2, 0, 1);
        x.revoke(0, 1, 0);
        x.pass(1);
        Expect.is("every kind of news, but only what is new", x.read(2), 3);
    }

    static void promise5AllThereIs() {
        Document.says(5, "Returns how many pieces of news it reads.");
        NotaryKiosk x = Made.by(Made.withNews(160));
        x.join(0, 5);
        x.pass(1);
        Expect.is("160", x.read(5), 160);
        Expect.is("then none", x.read(5), 0);
    }

    static void promise5NoSuchKiosk() {
        Document.says(5, NO_SUCH_KIOSK);
        Calls.noSuch("read");
    }

    private KiosksSentences() {
    }
}
