import java.util.ArrayList;
import java.util.Arrays;

/** A chamber of notaries. ../shared/DOC.md says, promise by promise, what each call does. */
public final class NotaryKiosk {

    private static final int KIOSKS = 6;
    private static final int CHAMBER = 0;
    private static final int PERSONS = 10;
    private static final int KINDS = 6;
    private static final int PARTS = 6;
    private static final int PERSON_PART = 0;
    private static final int POWER_PART = 1;
    private static final int KIND_PART = 2;
    private static final int AMOUNT_PART = 3;
    private static final int OFFICER_PART = 4;
    private static final int HOUR_PART = 5;

    private static final int NOTARY = 0;
    private static final int DEPUTY = 1;

    private static final int SIX_BITS = 63;
    private static final int LAST_HOUR = 400;
    private static final int MOST_HOURS_PASSED = 50;
    private static final int MOST_HOURS_DRAFTED = 400;
    private static final int MOST_HOURS_DEPUTED = 100;
    private static final int MOST_DEPTH = 3;
    private static final int MOST_AMOUNT = 10000;
    private static final int MOST_TOTAL = 100000;
    private static final int MOST_NEWS = 160;
    private static final int MOST_POWERS = 40;
    private static final int MOST_COPIES = 12;

    private static final int NO_REASON = 0;
    private static final int NOT_KNOWN = 1;
    private static final int NOT_ITS_HOLDER = 2;
    private static final int REVOKED = 3;
    private static final int OVER = 4;
    private static final int NOT_IN_SCOPE = 5;
    private static final int ABOVE_LIMIT = 6;
    private static final int ABOVE_TOTAL = 7;
    private static final int OTHER_OFFICER = 8;

    private final Links links;
    private final News news;
    private final ArrayList<Power> powers;
    private final Chain[] chains;
    private final ArrayList<Copy> copies;
    private int hour;
    private Draft draft;
    private int officer;
    private int kind;

    public NotaryKiosk() {
        links = new Links();
        news = new News();
        powers = new ArrayList<Power>();
        chains = new Chain[KIOSKS];
        for (int kiosk = 0; kiosk < KIOSKS; kiosk++) {
            chains[kiosk] = new Chain(kiosk);
        }
        copies = new ArrayList<Copy>();
        hour = 0;
        draft = new Draft(SIX_BITS, MOST_AMOUNT, MOST_TOTAL, 100, 0);
        officer = NOTARY;
        kind = 0;
    }

    // ---- kiosks, hours, mail

    public int join(int kiosk, int other)
            throws IndexOutOfBoundsException, IllegalArgumentException, IllegalStateException {
        mustBeTwoKiosks(kiosk, other);
        if (links.areLinked(kiosk, other)) {
            throw new IllegalStateException("they are joined");
        }
        links.turn(kiosk, other);
        return links.degree(kiosk);
    }

    public int cut(int kiosk, int other)
            throws IndexOutOfBoundsException, IllegalArgumentException, IllegalStateException {
        mustBeTwoKiosks(kiosk, other);
        if (!links.areLinked(kiosk, other)) {
            throw new IllegalStateException("they are not joined");
        }
        links.turn(kiosk, other);
        return links.degree(kiosk);
    }

    public int pass(int hours) throws IllegalArgumentException, IllegalStateException {
        mustBeWithin(hours, 1, MOST_HOURS_PASSED);
        if (hour + hours > LAST_HOUR) {
            throw new IllegalStateException("the hour would be above 400");
        }
        int comings = 0;
        for (int passed = 0; passed < hours; passed++) {
            hour++;
            links.keep(hour);
            comings += news.spread(links, hour);
        }
        return comings;
    }

    public int read(int kiosk) throws IndexOutOfBoundsException {
        mustBeKiosk(kiosk);
        return news.readMail(kiosk);
    }

    // ---- powers

    public void draft(int scope, int limit, int total, int hours, int depth) throws IllegalArgumentException {
        mustBeWithin(scope, 1, SIX_BITS);
        mustBeWithin(limit, 1, MOST_AMOUNT);
        mustBeWithin(total, 1, MOST_TOTAL);
        mustBeWithin(hours, 0, MOST_HOURS_DRAFTED);
        mustBeWithin(depth, 0, MOST_DEPTH);
        draft = new Draft(scope, limit, total, hours, depth);
    }

    public int grant(int kiosk, int giver, int holder)
            throws IndexOutOfBoundsException, IllegalArgumentException, IllegalStateException {
        mustBeKiosk(kiosk);
        mustBePerson(giver);
        mustBePerson(holder);
        mustBeOtherPerson(giver, holder);
        mustHaveRoomForPower();
        return makePower(kiosk, null, giver, holder);
    }

    public int passOn(int kiosk, int power, int holder)
            throws IndexOutOfBoundsException, IllegalArgumentException, IllegalStateException {
        mustBeKiosk(kiosk);
        mustBePower(power);
        mustBePerson(holder);
        Power source = powers.get(power);
        mustBeOtherPerson(source.holder, holder);
        if (!source.covers(draft, hour)) {
            throw new IllegalArgumentException("the draft is not within the source");
        }
        mustHaveRoomForPower();
        if (!isGoodAt(kiosk, source)) {
            throw new IllegalStateException("the source is not good here");
        }
        return makePower(kiosk, source, source.holder, holder);
    }

    public int revoke(int kiosk, int person, int power)
            throws IndexOutOfBoundsException, IllegalArgumentException, IllegalStateException {
        mustBeKiosk(kiosk);
        mustBePerson(person);
        mustBePower(power);
        Power revoked = powers.get(power);
        if (!revoked.hasGiver(person)) {
            throw new IllegalArgumentException("the person is the giver of no power of its line");
        }
        mustHaveRoomForNews();
        news.lookAtRead(kiosk);
        if (!news.knows(revoked) || news.revokes(revoked)) {
            throw new IllegalStateException("the power is not known here, or is revoked");
        }
        return news.publish(new Revocation(revoked), kiosk, hour);
    }

    public int depute(int kiosk, int from, int hours)
            throws IndexOutOfBoundsException, IllegalArgumentException, IllegalStateException {
        mustBeKiosk(kiosk);
        mustBeWithin(from, 0, MOST_HOURS_DEPUTED);
        mustBeWithin(hours, 0, MOST_HOURS_DEPUTED);
        mustHaveRoomForNews();
        int first = hour + from;
        int last = first + hours;
        news.lookAtAll();
        if (news.deputes(kiosk, first, last)) {
            throw new IllegalStateException("a deputation for the kiosk has an hour in common with it");
        }
        return news.publish(new Deputation(kiosk, first, last), CHAMBER, hour);
    }

    // ---- acts

    public void prepare(int officer, int kind) throws IllegalArgumentException {
        mustBeWithin(officer, NOTARY, DEPUTY);
        mustBeWithin(kind, 0, KINDS - 1);
        this.officer = officer;
        this.kind = kind;
    }

    public int act(int kiosk, int person, int power, int amount)
            throws IndexOutOfBoundsException, IllegalArgumentException, IllegalStateException {
        mustBeKiosk(kiosk);
        mustBePerson(person);
        mustBePower(power);
        mustBeWithin(amount, 1, MOST_AMOUNT);
        mustHaveRoomForNews();
        Power by = powers.get(power);
        Deed deed = deedNow(kiosk, person, amount);
        news.lookAtRead(kiosk);
        if (news.reasonAgainst(by, deed) != NO_REASON) {
            throw new IllegalStateException("there is a reason against it");
        }
        Act act = new Act(by, deed);
        news.publish(act, kiosk, hour);
        act.stood = reasonByMail(act) == NO_REASON;
        return chains[kiosk].enter(act);
    }

    public int tamper(int kiosk, int record, int amount)
            throws IndexOutOfBoundsException, IllegalArgumentException {
        mustBeRecord(kiosk, record);
        mustBeWithin(amount, 1, MOST_AMOUNT);
        Act act = chains[kiosk].actOf(record);
        int before = act.told[AMOUNT_PART];
        act.told[AMOUNT_PART] = amount;
        return before;
    }

    // ---- copies

    public int copy(int kiosk, int first, int last, int leftOut)
            throws IndexOutOfBoundsException, IllegalArgumentException, IllegalStateException {
        mustBeRecord(kiosk, first);
        mustBeRecord(kiosk, last);
        mustBeWithin(leftOut, 0, SIX_BITS);
        if (last < first) {
            throw new IllegalArgumentException("last is ahead of first");
        }
        if (copies.size() >= MOST_COPIES) {
            throw new IllegalStateException("there are 12 copies");
        }
        Copy copy = new Copy(kiosk, first, last - first + 1, leftOut);
        copy.takeFrom(chains[kiosk]);
        copies.add(copy);
        return copies.size() - 1;
    }

    public int forge(int copy, int place, int part, int value)
            throws IndexOutOfBoundsException, IllegalArgumentException, IllegalStateException {
        mustBePlace(copy, place);
        mustBePart(part);
        mustBeWithin(value, 0, MOST_AMOUNT);
        Copy forged = copies.get(copy);
        if (forged.leavesOut(part)) {
            throw new IllegalStateException("the part is left out");
        }
        int before = forged.told[place][part];
        forged.told[place][part] = value;
        return before;
    }

    // ---- what there is; nothing from here on changes anything

    public int hour() {
        return hour;
    }

    public int news() {
        return news.count();
    }

    public int powers() {
        return powers.size();
    }

    public int records(int kiosk) throws IndexOutOfBoundsException {
        mustBeKiosk(kiosk);
        return chains[kiosk].count();
    }

    public boolean areJoined(int kiosk, int other) throws IndexOutOfBoundsException {
        mustBeKiosk(kiosk);
        mustBeKiosk(other);
        return links.areLinked(kiosk, other);
    }

    public int came(int kiosk, int piece) throws IndexOutOfBoundsException {
        mustBeKiosk(kiosk);
        mustBePiece(piece);
        return news.pieceAt(piece).came[kiosk];
    }

    public int cameByLinks(int kiosk, int piece) throws IndexOutOfBoundsException {
        mustBeKiosk(kiosk);
        mustBePiece(piece);
        Piece told = news.pieceAt(piece);
        int reached = bit(told.kiosk);
        if (hasBit(reached, kiosk)) {
            return told.hour;
        }
        for (int then = told.hour + 1; then <= hour; then++) {
            reached = links.reach(reached, then);
            if (hasBit(reached, kiosk)) {
                return then;
            }
        }
        return -1;
    }

    public boolean isRead(int kiosk, int piece) throws IndexOutOfBoundsException {
        mustBeKiosk(kiosk);
        mustBePiece(piece);
        return hasBit(news.pieceAt(piece).readAt, kiosk);
    }

    public int mail(int kiosk) throws IndexOutOfBoundsException {
        mustBeKiosk(kiosk);
        return news.unread(kiosk);
    }

    // ---- powers and acts, as they are seen at a kiosk

    public int source(int power) throws IndexOutOfBoundsException {
        mustBePower(power);
        Power source = powers.get(power).source;
        return source == null ? -1 : source.powerNumber;
    }

    public int holder(int power) throws IndexOutOfBoundsException {
        mustBePower(power);
        return powers.get(power).holder;
    }

    public boolean isGood(int kiosk, int power) throws IndexOutOfBoundsException {
        mustBeKiosk(kiosk);
        mustBePower(power);
        return isGoodAt(kiosk, powers.get(power));
    }

    public int done(int kiosk, int power) throws IndexOutOfBoundsException {
        mustBeKiosk(kiosk);
        mustBePower(power);
        news.lookAtRead(kiosk);
        return news.doneWith(powers.get(power));
    }

    public int beyond(int power) throws IndexOutOfBoundsException {
        mustBePower(power);
        Power used = powers.get(power);
        news.lookAtAll();
        return Math.max(0, news.doneWith(used) - used.total);
    }

    public int against(int kiosk, int person, int power, int amount)
            throws IndexOutOfBoundsException, IllegalArgumentException {
        mustBeKiosk(kiosk);
        mustBePerson(person);
        mustBePower(power);
        mustBeWithin(amount, 1, MOST_AMOUNT);
        news.lookAtRead(kiosk);
        return news.reasonAgainst(powers.get(power), deedNow(kiosk, person, amount));
    }

    public int choices(int kiosk, int person, int amount)
            throws IndexOutOfBoundsException, IllegalArgumentException {
        mustBeKiosk(kiosk);
        mustBePerson(person);
        mustBeWithin(amount, 1, MOST_AMOUNT);
        Deed deed = deedNow(kiosk, person, amount);
        news.lookAtRead(kiosk);
        int open = 0;
        for (int power = 0; power < powers.size(); power++) {
            if (news.reasonAgainst(powers.get(power), deed) == NO_REASON) {
                open++;
            }
        }
        return open;
    }

    // ---- standing, chains, copies

    public boolean stands(int kiosk, int record) throws IndexOutOfBoundsException {
        mustBeRecord(kiosk, record);
        return chains[kiosk].actOf(record).stood;
    }

    public int fault(int kiosk, int record) throws IndexOutOfBoundsException {
        mustBeRecord(kiosk, record);
        return reasonByMail(chains[kiosk].actOf(record));
    }

    public int standing() {
        int all = 0;
        for (int kiosk = 0; kiosk < KIOSKS; kiosk++) {
            all += chains[kiosk].countStanding();
        }
        return all;
    }

    public int pieceOf(int kiosk, int record) throws IndexOutOfBoundsException {
        mustBeRecord(kiosk, record);
        return chains[kiosk].actOf(record).number;
    }

    public int part(int kiosk, int record, int part) throws IndexOutOfBoundsException {
        mustBeRecord(kiosk, record);
        mustBePart(part);
        return chains[kiosk].actOf(record).told[part];
    }

    public int seal(int kiosk, int record) throws IndexOutOfBoundsException {
        mustBeRecord(kiosk, record);
        return chains[kiosk].actOf(record).keptSeal;
    }

    public int broken(int kiosk) throws IndexOutOfBoundsException {
        mustBeKiosk(kiosk);
        return chains[kiosk].firstBroken();
    }

    public int size(int copy) throws IndexOutOfBoundsException {
        mustBeCopy(copy);
        return copies.get(copy).places;
    }

    public int copied(int copy, int place, int part) throws IndexOutOfBoundsException {
        mustBePlace(copy, place);
        mustBePart(part);
        Copy asked = copies.get(copy);
        return asked.leavesOut(part) ? -1 : asked.told[place][part];
    }

    public int brokenCopy(int copy) throws IndexOutOfBoundsException {
        mustBeCopy(copy);
        return copies.get(copy).firstBroken();
    }

    public boolean isTrue(int copy) throws IndexOutOfBoundsException {
        mustBeCopy(copy);
        Copy asked = copies.get(copy);
        return asked.tellsAs(chains[asked.kiosk]);
    }

    // ---- what several calls do

    private int makePower(int kiosk, Power source, int giver, int holder) {
        Power made = new Power(powers.size(), source, giver, holder, draft, hour);
        powers.add(made);
        news.publish(made, kiosk, hour);
        return made.powerNumber;
    }

    private Deed deedNow(int kiosk, int person, int amount) {
        return new Deed(kiosk, hour, person, kind, amount, officer);
    }

    private boolean isGoodAt(int kiosk, Power power) {
        news.lookAtRead(kiosk);
        return news.knows(power) && !news.revokes(power) && !power.isOver(hour);
    }

    private int reasonByMail(Act act) {
        news.lookAtReadable(act);
        return news.reasonAgainst(act.power, act.deed);
    }

    // ---- what is refused

    private static void mustBeKiosk(int kiosk) {
        if (kiosk < 0 || kiosk >= KIOSKS) {
            throw new IndexOutOfBoundsException("no such kiosk");
        }
    }

    private static void mustBeTwoKiosks(int kiosk, int other) {
        mustBeKiosk(kiosk);
        mustBeKiosk(other);
        if (kiosk == other) {
            throw new IllegalArgumentException("both kiosks are the same");
        }
    }

    private static void mustBePerson(int person) {
        if (person < 0 || person >= PERSONS) {
            throw new IndexOutOfBoundsException("no such person");
        }
    }

    private static void mustBeOtherPerson(int giver, int holder) {
        if (giver == holder) {
            throw new IllegalArgumentException("giver and holder are the same");
        }
    }

    private static void mustBePart(int part) {
        if (part < 0 || part >= PARTS) {
            throw new IndexOutOfBoundsException("no such part");
        }
    }

    private static void mustBeWithin(int value, int least, int most) {
        if (value < least || value > most) {
            throw new IllegalArgumentException("an argument is out of range");
        }
    }

    private void mustBePower(int power) {
        if (power < 0 || power >= powers.size()) {
            throw new IndexOutOfBoundsException("no such power");
        }
    }

    private void mustBePiece(int piece) {
        if (piece < 0 || piece >= news.count()) {
            throw new IndexOutOfBoundsException("no such piece of news");
        }
    }

    private void mustBeRecord(int kiosk, int record) {
        mustBeKiosk(kiosk);
        if (record < 0 || record >= chains[kiosk].count()) {
            throw new IndexOutOfBoundsException("no such record");
        }
    }

    private void mustBeCopy(int copy) {
        if (copy < 0 || copy >= copies.size()) {
            throw new IndexOutOfBoundsException("no such copy");
        }
    }

    private void mustBePlace(int copy, int place) {
        mustBeCopy(copy);
        if (place < 0 || place >= copies.get(copy).places) {
            throw new IndexOutOfBoundsException("the copy does not have so many records");
        }
    }

    private void mustHaveRoomForNews() {
        if (news.count() >= MOST_NEWS) {
            throw new IllegalStateException("there are 160 pieces of news");
        }
    }

    private void mustHaveRoomForPower() {
        if (powers.size() >= MOST_POWERS) {
            throw new IllegalStateException("there are 40 powers");
        }
        mustHaveRoomForNews();
    }

    // ---- sets of small numbers as bits, seals and marks

    private static int bit(int number) {
        return 1 << number;
    }

    private static boolean hasBit(int set, int number) {
        return (set & bit(number)) != 0;
    }

    private static int sealOf(int a, int b) {
        return (131 * a + 17 * b + 7) % 1000003;
    }

    private static int saltOf(int kiosk, int record, int part) {
        return 7919 * kiosk + 613 * record + 97 * part;
    }

    private static int markOf(int kiosk, int record, int part, int told) {
        return sealOf(saltOf(kiosk, record, part), told);
    }

    /** The seal that a record comes out with; of the parts that are left out, told has the marks. */
    private static int sealFrom(int ahead, int kiosk, int record, int[] told, int leftOut) {
        int mark = 1;
        for (int part = 0; part < PARTS && part < told.length; part++) {
            int markOfPart = hasBit(leftOut, part) ? told[part] : markOf(kiosk, record, part, told[part]);
            mark = sealOf(mark, markOfPart);
        }
        return sealOf(ahead, mark);
    }

    /** Which kiosks are joined, and which were as each hour came: came by links is told from these alone. */
    private static final class Links {
        private final int[] joinedTo = new int[KIOSKS];
        private final int[] joinedIn = new int[(LAST_HOUR + 1) * KIOSKS];

        boolean areLinked(int kiosk, int other) {
            return hasBit(joinedTo[kiosk], other);
        }

        int degree(int kiosk) {
            return Integer.bitCount(joinedTo[kiosk]);
        }

        /** Joins two that are not joined, or cuts two that are. */
        void turn(int kiosk, int other) {
            joinedTo[kiosk] ^= bit(other);
            joinedTo[other] ^= bit(kiosk);
        }

        void keep(int hour) {
            System.arraycopy(joinedTo, 0, joinedIn, hour * KIOSKS, KIOSKS);
        }

        /** The kiosks where a piece is, in an hour, that was at these in the hour before. */
        int reach(int from, int hour) {
            int reached = from;
            for (int kiosk = 0; kiosk < KIOSKS; kiosk++) {
                if (hasBit(from, kiosk)) {
                    reached |= joinedIn[hour * KIOSKS + kiosk];
                }
            }
            return reached;
        }
    }

    /** What the next powers are like. */
    private static final class Draft {
        final int scope;
        final int limit;
        final int total;
        final int hours;
        final int depth;

        Draft(int scope, int limit, int total, int hours, int depth) {
            this.scope = scope;
            this.limit = limit;
            this.total = total;
            this.hours = hours;
            this.depth = depth;
        }
    }

    /** A piece of news: where and when it was made, came and was read; cameTo and readAt are sets of kiosks. */
    private abstract static class Piece {
        int number;
        int kiosk;
        int hour;
        int cameTo;
        int readAt;
        final int[] came;

        Piece() {
            came = new int[KIOSKS];
            Arrays.fill(came, -1);
        }

        void comeTo(int place, int then) {
            came[place] = then;
            cameTo |= bit(place);
        }

        boolean isInMail(int place) {
            return hasBit(cameTo & ~readAt, place);
        }

        /** Of what is made at one kiosk in one hour, the order of making tells what was there. */
        boolean couldBeReadFor(Piece other) {
            if (kiosk == other.kiosk) {
                return number < other.number;
            }
            return hasBit(cameTo, other.kiosk) && came[other.kiosk] <= other.hour;
        }

        boolean isRevocationOf(Power power) {
            return false;
        }

        boolean isDeputation(int place, int first, int last) {
            return false;
        }

        int amountBy(Power power) {
            return 0;
        }
    }

    /** A power; its line is it and what its source leads to. */
    private static final class Power extends Piece {
        final int powerNumber;
        final Power source;
        final int giver;
        final int holder;
        final int scope;
        final int limit;
        final int total;
        final int lastHour;
        final int depth;

        Power(int powerNumber, Power source, int giver, int holder, Draft draft, int hour) {
            this.powerNumber = powerNumber;
            this.source = source;
            this.giver = giver;
            this.holder = holder;
            scope = draft.scope;
            limit = draft.limit;
            total = draft.total;
            lastHour = hour + draft.hours;
            depth = draft.depth;
        }

        boolean covers(Draft draft, int then) {
            return (draft.scope & ~scope) == 0 && draft.limit <= limit && draft.total <= total
                    && then + draft.hours <= lastHour && draft.depth < depth;
        }

        boolean hasInLine(Power other) {
            for (Power one = this; one != null; one = one.source) {
                if (one == other) {
                    return true;
                }
            }
            return false;
        }

        boolean hasGiver(int person) {
            for (Power one = this; one != null; one = one.source) {
                if (one.giver == person) {
                    return true;
                }
            }
            return false;
        }

        boolean isOver(int then) {
            for (Power one = this; one != null; one = one.source) {
                if (then > one.lastHour) {
                    return true;
                }
            }
            return false;
        }

        boolean limitsBelow(int amount) {
            for (Power one = this; one != null; one = one.source) {
                if (amount > one.limit) {
                    return true;
                }
            }
            return false;
        }
    }

    private static final class Revocation extends Piece {
        private final Power revoked;

        Revocation(Power revoked) {
            this.revoked = revoked;
        }

        boolean isRevocationOf(Power power) {
            return revoked == power;
        }
    }

    private static final class Deputation extends Piece {
        private final int deputed;
        private final int from;
        private final int to;

        Deputation(int deputed, int from, int to) {
            this.deputed = deputed;
            this.from = from;
            this.to = to;
        }

        boolean isDeputation(int place, int first, int last) {
            return place == deputed && first <= to && from <= last;
        }
    }

    /** An act, made or only thought of, but for the power by which it is. */
    private static final class Deed {
        final int kiosk;
        final int hour;
        final int person;
        final int kind;
        final int amount;
        final int officer;

        Deed(int kiosk, int hour, int person, int kind, int amount, int officer) {
            this.kiosk = kiosk;
            this.hour = hour;
            this.person = person;
            this.kind = kind;
            this.amount = amount;
            this.officer = officer;
        }
    }

    /** An act and its record: tampering reaches what the record tells, never the deed. */
    private static final class Act extends Piece {
        final Power power;
        final Deed deed;
        final int[] told;
        int keptSeal;
        boolean stood;

        Act(Power power, Deed deed) {
            this.power = power;
            this.deed = deed;
            told = new int[PARTS];
            told[PERSON_PART] = deed.person;
            told[POWER_PART] = power.powerNumber;
            told[KIND_PART] = deed.kind;
            told[AMOUNT_PART] = deed.amount;
            told[OFFICER_PART] = deed.officer;
            told[HOUR_PART] = deed.hour;
        }

        int amountBy(Power other) {
            return power.hasInLine(other) ? deed.amount : 0;
        }
    }

    /**
     * All news, and which of it is looked at. Whoever asks knows, revokes, doneWith, deputes or
     * reasonAgainst calls one of the lookAt methods first: the answer is by the news seen then.
     */
    private static final class News {
        private final ArrayList<Piece> pieces = new ArrayList<Piece>();
        private final boolean[] seen = new boolean[MOST_NEWS];

        int count() {
            return pieces.size();
        }

        Piece pieceAt(int number) {
            return pieces.get(number);
        }

        int publish(Piece piece, int kiosk, int hour) {
            piece.number = pieces.size();
            piece.kiosk = kiosk;
            piece.hour = hour;
            piece.comeTo(kiosk, hour);
            piece.readAt = bit(kiosk);
            pieces.add(piece);
            return piece.number;
        }

        int spread(Links links, int hour) {
            int comings = 0;
            for (int number = 0; number < pieces.size(); number++) {
                Piece piece = pieces.get(number);
                int fresh = links.reach(piece.cameTo, hour) & ~piece.cameTo;
                for (int kiosk = 0; kiosk < KIOSKS; kiosk++) {
                    if (hasBit(fresh, kiosk)) {
                        piece.comeTo(kiosk, hour);
                    }
                }
                comings += Integer.bitCount(fresh);
            }
            return comings;
        }

        int unread(int kiosk) {
            int waiting = 0;
            for (int number = 0; number < pieces.size(); number++) {
                if (pieces.get(number).isInMail(kiosk)) {
                    waiting++;
                }
            }
            return waiting;
        }

        int readMail(int kiosk) {
            int waiting = unread(kiosk);
            for (int number = 0; number < pieces.size(); number++) {
                Piece piece = pieces.get(number);
                if (piece.isInMail(kiosk)) {
                    piece.readAt |= bit(kiosk);
                }
            }
            return waiting;
        }

        void lookAtRead(int kiosk) {
            for (int number = 0; number < pieces.size() && number < seen.length; number++) {
                seen[number] = hasBit(pieces.get(number).readAt, kiosk);
            }
        }

        void lookAtReadable(Piece made) {
            for (int number = 0; number < pieces.size() && number < seen.length; number++) {
                seen[number] = pieces.get(number).couldBeReadFor(made);
            }
        }

        void lookAtAll() {
            for (int number = 0; number < pieces.size() && number < seen.length; number++) {
                seen[number] = true;
            }
        }

        private boolean sees(int number) {
            return number >= 0 && number < seen.length && seen[number];
        }

        boolean knows(Power power) {
            for (Power one = power; one != null; one = one.source) {
                if (!sees(one.number)) {
                    return false;
                }
            }
            return true;
        }

        boolean revokes(Power power) {
            for (Power one = power; one != null; one = one.source) {
                if (revokesAlone(one)) {
                    return true;
                }
            }
            return false;
        }

        private boolean revokesAlone(Power power) {
            for (int number = 0; number < pieces.size(); number++) {
                if (sees(number) && pieces.get(number).isRevocationOf(power)) {
                    return true;
                }
            }
            return false;
        }

        int doneWith(Power power) {
            int together = 0;
            for (int number = 0; number < pieces.size(); number++) {
                if (sees(number)) {
                    together += pieces.get(number).amountBy(power);
                }
            }
            return together;
        }

        private boolean wouldPassTotal(Power power, int amount) {
            for (Power one = power; one != null; one = one.source) {
                if (doneWith(one) + amount > one.total) {
                    return true;
                }
            }
            return false;
        }

        boolean deputes(int kiosk, int first, int last) {
            for (int number = 0; number < pieces.size(); number++) {
                if (sees(number) && pieces.get(number).isDeputation(kiosk, first, last)) {
                    return true;
                }
            }
            return false;
        }

        private int officerAt(int kiosk, int hour) {
            return deputes(kiosk, hour, hour) ? DEPUTY : NOTARY;
        }

        int reasonAgainst(Power power, Deed deed) {
            if (!knows(power)) {
                return NOT_KNOWN;
            }
            if (deed.person != power.holder) {
                return NOT_ITS_HOLDER;
            }
            if (revokes(power)) {
                return REVOKED;
            }
            if (power.isOver(deed.hour)) {
                return OVER;
            }
            if (!hasBit(power.scope, deed.kind)) {
                return NOT_IN_SCOPE;
            }
            if (power.limitsBelow(deed.amount)) {
                return ABOVE_LIMIT;
            }
            if (wouldPassTotal(power, deed.amount)) {
                return ABOVE_TOTAL;
            }
            return deed.officer == officerAt(deed.kiosk, deed.hour) ? NO_REASON : OTHER_OFFICER;
        }
    }

    /** The records of a kiosk. */
    private static final class Chain {
        private final int kiosk;
        private final ArrayList<Act> acts;

        Chain(int kiosk) {
            this.kiosk = kiosk;
            acts = new ArrayList<Act>();
        }

        int count() {
            return acts.size();
        }

        Act actOf(int record) {
            return acts.get(record);
        }

        int enter(Act act) {
            int record = acts.size();
            act.keptSeal = sealNow(record, act);
            acts.add(act);
            return record;
        }

        int sealAhead(int record) {
            return record > 0 ? acts.get(record - 1).keptSeal : 1000 + kiosk;
        }

        private int sealNow(int record, Act act) {
            return sealFrom(sealAhead(record), kiosk, record, act.told, 0);
        }

        int firstBroken() {
            for (int record = 0; record < acts.size(); record++) {
                Act act = acts.get(record);
                if (sealNow(record, act) != act.keptSeal) {
                    return record;
                }
            }
            return -1;
        }

        int countStanding() {
            int all = 0;
            for (int record = 0; record < acts.size(); record++) {
                if (acts.get(record).stood) {
                    all++;
                }
            }
            return all;
        }
    }

    /** A copy of some records; of the parts that are left out it has the marks in their place. */
    private static final class Copy {
        final int kiosk;
        final int first;
        final int places;
        final int leftOut;
        final int[][] told;
        private final int[] keptSeals;
        private int sealAhead;

        Copy(int kiosk, int first, int places, int leftOut) {
            this.kiosk = kiosk;
            this.first = first;
            this.places = places;
            this.leftOut = leftOut;
            told = new int[places][PARTS];
            keptSeals = new int[places];
        }

        boolean leavesOut(int part) {
            return hasBit(leftOut, part);
        }

        void takeFrom(Chain chain) {
            sealAhead = chain.sealAhead(first);
            for (int place = 0; place < places; place++) {
                Act act = chain.actOf(first + place);
                keptSeals[place] = act.keptSeal;
                for (int part = 0; part < PARTS; part++) {
                    told[place][part] = leavesOut(part)
                            ? markOf(kiosk, first + place, part, act.told[part]) : act.told[part];
                }
            }
        }

        int firstBroken() {
            int ahead = sealAhead;
            for (int place = 0; place < places; place++) {
                if (sealFrom(ahead, kiosk, first + place, told[place], leftOut) != keptSeals[place]) {
                    return place;
                }
                ahead = keptSeals[place];
            }
            return -1;
        }

        boolean tellsAs(Chain chain) {
            for (int place = 0; place < places; place++) {
                if (!tellsRecordAs(place, chain.actOf(first + place))) {
                    return false;
                }
            }
            return true;
        }

        private boolean tellsRecordAs(int place, Act act) {
            if (keptSeals[place] != act.keptSeal) {
                return false;
            }
            for (int part = 0; part < PARTS; part++) {
                if (!leavesOut(part) && told[place][part] != act.told[part]) {
                    return false;
                }
            }
            return true;
        }
    }
}
