import java.util.ArrayList;
import java.util.HashSet;
import java.util.List;
import java.util.Set;
import java.util.TreeSet;

/** The document once more, word by word and without any thrift, to compare the program with. */
final class Model {

    /** A piece of news, of any sort. */
    static final class Item {
        char sort;
        int number;
        int kiosk;
        int hour;
        int[] came = {-1, -1, -1, -1, -1, -1};
        Set<Integer> readers = new HashSet<>();
        // a power, or the power of an act or a revocation
        int power;
        // an act
        int person;
        int kind;
        int amount;
        int officer;
        boolean stands;
        int[] parts;
        int seal;
        // a deputation
        int deputed;
        int from;
        int to;
    }

    static final class Power {
        int source = -1;
        int giver;
        int holder;
        Set<Integer> kinds = new TreeSet<>();
        int limit;
        int total;
        int last;
        int depth;
        Item item;
    }

    static final class Copy {
        int kiosk;
        int first;
        Set<Integer> out = new HashSet<>();
        List<long[]> told = new ArrayList<>();
        List<Integer> seals = new ArrayList<>();
        int ahead;
    }

    private int now;
    private final Set<Set<Integer>> links = new HashSet<>();
    private final List<Set<Set<Integer>>> linksByHour = new ArrayList<>();
    private final List<Item> items = new ArrayList<>();
    private final List<Power> all = new ArrayList<>();
    private final List<Copy> copies = new ArrayList<>();
    private int[] draft = {63, 10000, 100000, 100, 0};
    private int officer;
    private int kind;

    Model() {
        linksByHour.add(new HashSet<>());
    }

    private static void index(boolean fine) {
        if (!fine) {
            throw new IndexOutOfBoundsException();
        }
    }

    private static void argument(boolean fine) {
        if (!fine) {
            throw new IllegalArgumentException();
        }
    }

    private static void state(boolean fine) {
        if (!fine) {
            throw new IllegalStateException();
        }
    }

    private static boolean isKiosk(int kiosk) {
        return 0 <= kiosk && kiosk <= 5;
    }

    private static boolean isPerson(int person) {
        return 0 <= person && person <= 9;
    }

    private boolean isPower(int power) {
        return 0 <= power && power < all.size();
    }

    private List<Item> chain(int at) {
        List<Item> acts = new ArrayList<>();
        for (Item item : items) {
            if (item.sort == 'a' && item.kiosk == at) {
                acts.add(item);
            }
        }
        return acts;
    }

    private boolean isRecord(int kiosk, int record) {
        return isKiosk(kiosk) && 0 <= record && record < chain(kiosk).size();
    }

    private boolean isCopy(int copy) {
        return 0 <= copy && copy < copies.size();
    }

    private boolean isPlace(int copy, int place) {
        return isCopy(copy) && 0 <= place && place < copies.get(copy).told.size();
    }

    private int joinedTo(int kiosk) {
        int count = 0;
        for (Set<Integer> link : links) {
            count += link.contains(kiosk) ? 1 : 0;
        }
        return count;
    }

    int join(int kiosk, int other) {
        index(isKiosk(kiosk) && isKiosk(other));
        argument(kiosk != other);
        state(links.add(Set.of(kiosk, other)));
        return joinedTo(kiosk);
    }

    int cut(int kiosk, int other) {
        index(isKiosk(kiosk) && isKiosk(other));
        argument(kiosk != other);
        state(links.remove(Set.of(kiosk, other)));
        return joinedTo(kiosk);
    }

    int pass(int hours) {
        argument(1 <= hours && hours <= 50);
        state(now + hours <= 400);
        int comings = 0;
        for (int i = 0; i < hours; i++) {
            now++;
            linksByHour.add(new HashSet<>(links));
            for (Item item : items) {
                int[] before = item.came.clone();
                for (Set<Integer> link : links) {
                    for (int from : link) {
                        for (int to : link) {
                            if (before[from] >= 0 && item.came[to] < 0) {
                                item.came[to] = now;
                                comings++;
                            }
                        }
                    }
                }
            }
        }
        return comings;
    }

    int read(int kiosk) {
        index(isKiosk(kiosk));
        int count = 0;
        for (Item item : items) {
            if (item.came[kiosk] >= 0 && item.readers.add(kiosk)) {
                count++;
            }
        }
        return count;
    }

    int draft(int scope, int limit, int total, int hours, int depth) {
        argument(1 <= scope && scope <= 63 && 1 <= limit && limit <= 10000 && 1 <= total && total <= 100000
                && 0 <= hours && hours <= 400 && 0 <= depth && depth <= 3);
        draft = new int[] {scope, limit, total, hours, depth};
        return 0;
    }

    private Item make(char sort, int kiosk) {
        Item item = new Item();
        item.sort = sort;
        item.number = items.size();
        item.kiosk = kiosk;
        item.hour = now;
        item.came[kiosk] = now;
        item.readers.add(kiosk);
        items.add(item);
        return item;
    }

    private int makePower(int kiosk, int source, int giver, int holder) {
        Power power = new Power();
        power.source = source;
        power.giver = giver;
        power.holder = holder;
        for (int k = 0; k < 6; k++) {
            if ((draft[0] >> k) % 2 == 1) {
                power.kinds.add(k);
            }
        }
        power.limit = draft[1];
        power.total = draft[2];
        power.last = now + draft[3];
        power.depth = draft[4];
        all.add(power);
        power.item = make('p', kiosk);
        power.item.power = all.size() - 1;
        return all.size() - 1;
    }

    int grant(int kiosk, int giver, int holder) {
        index(isKiosk(kiosk) && isPerson(giver) && isPerson(holder));
        argument(giver != holder);
        state(all.size() < 40 && items.size() < 160);
        return makePower(kiosk, -1, giver, holder);
    }

    int passOn(int kiosk, int power, int holder) {
        index(isKiosk(kiosk) && isPower(power) && isPerson(holder));
        Power source = all.get(power);
        argument(source.holder != holder);
        for (int k = 0; k < 6; k++) {
            argument((draft[0] >> k) % 2 == 0 || source.kinds.contains(k));
        }
        argument(draft[1] <= source.limit && draft[2] <= source.total);
        argument(now + draft[3] <= source.last && draft[4] < source.depth && source.depth > 0);
        state(all.size() < 40 && items.size() < 160);
        List<Item> read = readAt(kiosk);
        state(known(read, power) && !revoked(read, power) && !over(power, now));
        return makePower(kiosk, power, source.holder, holder);
    }

    int revoke(int kiosk, int person, int power) {
        index(isKiosk(kiosk) && isPerson(person) && isPower(power));
        boolean giver = false;
        for (int one : line(power)) {
            giver |= all.get(one).giver == person;
        }
        argument(giver);
        List<Item> read = readAt(kiosk);
        state(items.size() < 160 && known(read, power) && !revoked(read, power));
        Item item = make('r', kiosk);
        item.power = power;
        return item.number;
    }

    int depute(int kiosk, int from, int hours) {
        index(isKiosk(kiosk));
        argument(0 <= from && from <= 100 && 0 <= hours && hours <= 100);
        state(items.size() < 160);
        for (int hour = now + from; hour <= now + from + hours; hour++) {
            state(!deputyActs(items, kiosk, hour));
        }
        Item item = make('d', 0);
        item.deputed = kiosk;
        item.from = now + from;
        item.to = now + from + hours;
        return item.number;
    }

    int prepare(int by, int of) {
        argument(0 <= by && by <= 1 && 0 <= of && of <= 5);
        officer = by;
        kind = of;
        return 0;
    }

    int act(int kiosk, int person, int power, int amount) {
        index(isKiosk(kiosk) && isPerson(person) && isPower(power));
        argument(1 <= amount && amount <= 10000);
        state(items.size() < 160);
        Item thought = thought(kiosk, person, power, amount);
        state(reason(readAt(kiosk), thought) == 0);
        List<Item> could = new ArrayList<>();
        for (Item item : items) {
            if (item.came[kiosk] >= 0) {
                could.add(item);
            }
        }
        boolean stands = reason(could, thought) == 0;
        List<Item> chain = chain(kiosk);
        Item item = make('a', kiosk);
        item.person = person;
        item.power = power;
        item.kind = kind;
        item.amount = amount;
        item.officer = officer;
        item.stands = stands;
        item.parts = new int[] {person, power, kind, amount, officer, now};
        item.seal = (int) seal(aheadOf(kiosk, chain.size()), markOfRecord(kiosk, chain.size(), item.parts));
        return chain.size();
    }

    private Item thought(int kiosk, int person, int power, int amount) {
        Item item = new Item();
        item.kiosk = kiosk;
        item.hour = now;
        item.person = person;
        item.power = power;
        item.kind = kind;
        item.amount = amount;
        item.officer = officer;
        return item;
    }

    private static long seal(long a, long b) {
        return (131 * a + 17 * b + 7) % 1000003;
    }

    private static long mark(int kiosk, int record, int part, long told) {
        return seal(7919L * kiosk + 613L * record + 97L * part, told);
    }

    private static long markOfRecord(int kiosk, int record, int[] parts) {
        long mark = 1;
        for (int part = 0; part < 6; part++) {
            mark = seal(mark, mark(kiosk, record, part, parts[part]));
        }
        return mark;
    }

    private int aheadOf(int kiosk, int record) {
        return record == 0 ? 1000 + kiosk : chain(kiosk).get(record - 1).seal;
    }

    int tamper(int kiosk, int record, int amount) {
        index(isRecord(kiosk, record));
        argument(1 <= amount && amount <= 10000);
        int[] parts = chain(kiosk).get(record).parts;
        int before = parts[3];
        parts[3] = amount;
        return before;
    }

    int copy(int kiosk, int first, int last, int leftOut) {
        index(isRecord(kiosk, first) && isRecord(kiosk, last));
        argument(first <= last && 0 <= leftOut && leftOut <= 63);
        state(copies.size() < 12);
        Copy copy = new Copy();
        copy.kiosk = kiosk;
        copy.first = first;
        copy.ahead = aheadOf(kiosk, first);
        for (int part = 0; part < 6; part++) {
            if ((leftOut >> part) % 2 == 1) {
                copy.out.add(part);
            }
        }
        for (int record = first; record <= last; record++) {
            Item act = chain(kiosk).get(record);
            long[] told = new long[6];
            for (int part = 0; part < 6; part++) {
                told[part] = copy.out.contains(part) ? mark(kiosk, record, part, act.parts[part]) : act.parts[part];
            }
            copy.told.add(told);
            copy.seals.add(act.seal);
        }
        copies.add(copy);
        return copies.size() - 1;
    }

    int forge(int copy, int place, int part, int value) {
        index(isPlace(copy, place) && 0 <= part && part <= 5);
        argument(0 <= value && value <= 10000);
        state(!copies.get(copy).out.contains(part));
        long[] told = copies.get(copy).told.get(place);
        int before = (int) told[part];
        told[part] = value;
        return before;
    }

    int hour() {
        return now;
    }

    int news() {
        return items.size();
    }

    int powers() {
        return all.size();
    }

    int records(int kiosk) {
        index(isKiosk(kiosk));
        return chain(kiosk).size();
    }

    boolean areJoined(int kiosk, int other) {
        index(isKiosk(kiosk) && isKiosk(other));
        return kiosk != other && links.contains(Set.of(kiosk, other));
    }

    int came(int kiosk, int piece) {
        index(isKiosk(kiosk) && 0 <= piece && piece < items.size());
        return items.get(piece).came[kiosk];
    }

    /** Backwards: the earliest hour from which on a way leads from where it was made to the kiosk. */
    int cameByLinks(int kiosk, int piece) {
        index(isKiosk(kiosk) && 0 <= piece && piece < items.size());
        Item item = items.get(piece);
        for (int hour = item.hour; hour <= now; hour++) {
            Set<Integer> ends = new HashSet<>(Set.of(kiosk));
            for (int back = hour; back > item.hour; back--) {
                Set<Integer> more = new HashSet<>(ends);
                for (Set<Integer> link : linksByHour.get(back)) {
                    for (int end : link) {
                        if (ends.contains(end)) {
                            more.addAll(link);
                        }
                    }
                }
                ends = more;
            }
            if (ends.contains(item.kiosk)) {
                return hour;
            }
        }
        return -1;
    }

    boolean isRead(int kiosk, int piece) {
        index(isKiosk(kiosk) && 0 <= piece && piece < items.size());
        return items.get(piece).readers.contains(kiosk);
    }

    int mail(int kiosk) {
        index(isKiosk(kiosk));
        int count = 0;
        for (Item item : items) {
            count += item.came[kiosk] >= 0 && !item.readers.contains(kiosk) ? 1 : 0;
        }
        return count;
    }

    int source(int power) {
        index(isPower(power));
        return all.get(power).source;
    }

    int holder(int power) {
        index(isPower(power));
        return all.get(power).holder;
    }

    boolean isGood(int kiosk, int power) {
        index(isKiosk(kiosk) && isPower(power));
        List<Item> read = readAt(kiosk);
        return known(read, power) && !revoked(read, power) && !over(power, now);
    }

    int done(int kiosk, int power) {
        index(isKiosk(kiosk) && isPower(power));
        return done(readAt(kiosk), power);
    }

    int beyond(int power) {
        index(isPower(power));
        int above = done(items, power) - all.get(power).total;
        return above > 0 ? above : 0;
    }

    int against(int kiosk, int person, int power, int amount) {
        index(isKiosk(kiosk) && isPerson(person) && isPower(power));
        argument(1 <= amount && amount <= 10000);
        return reason(readAt(kiosk), thought(kiosk, person, power, amount));
    }

    int choices(int kiosk, int person, int amount) {
        index(isKiosk(kiosk) && isPerson(person));
        argument(1 <= amount && amount <= 10000);
        int count = 0;
        for (int power = 0; power < all.size(); power++) {
            count += reason(readAt(kiosk), thought(kiosk, person, power, amount)) == 0 ? 1 : 0;
        }
        return count;
    }

    boolean stands(int kiosk, int record) {
        index(isRecord(kiosk, record));
        return chain(kiosk).get(record).stands;
    }

    int fault(int kiosk, int record) {
        index(isRecord(kiosk, record));
        Item act = chain(kiosk).get(record);
        List<Item> could = new ArrayList<>();
        for (Item item : items) {
            boolean came = item.came[kiosk] >= 0 && item.came[kiosk] <= act.hour;
            if (came && (item.kiosk != kiosk || item.number < act.number)) {
                could.add(item);
            }
        }
        return reason(could, act);
    }

    int standing() {
        int count = 0;
        for (Item item : items) {
            count += item.stands ? 1 : 0;
        }
        return count;
    }

    int pieceOf(int kiosk, int record) {
        index(isRecord(kiosk, record));
        return chain(kiosk).get(record).number;
    }

    int part(int kiosk, int record, int part) {
        index(isRecord(kiosk, record) && 0 <= part && part <= 5);
        return chain(kiosk).get(record).parts[part];
    }

    int seal(int kiosk, int record) {
        index(isRecord(kiosk, record));
        return chain(kiosk).get(record).seal;
    }

    int broken(int kiosk) {
        index(isKiosk(kiosk));
        List<Item> chain = chain(kiosk);
        for (int record = 0; record < chain.size(); record++) {
            long mark = markOfRecord(kiosk, record, chain.get(record).parts);
            if (seal(aheadOf(kiosk, record), mark) != chain.get(record).seal) {
                return record;
            }
        }
        return -1;
    }

    int size(int copy) {
        index(isCopy(copy));
        return copies.get(copy).told.size();
    }

    int copied(int copy, int place, int part) {
        index(isPlace(copy, place) && 0 <= part && part <= 5);
        return copies.get(copy).out.contains(part) ? -1 : (int) copies.get(copy).told.get(place)[part];
    }

    int brokenCopy(int copy) {
        index(isCopy(copy));
        Copy asked = copies.get(copy);
        for (int place = 0; place < asked.told.size(); place++) {
            long mark = 1;
            for (int part = 0; part < 6; part++) {
                long told = asked.told.get(place)[part];
                mark = seal(mark, asked.out.contains(part) ? told : mark(asked.kiosk, asked.first + place, part, told));
            }
            int ahead = place == 0 ? asked.ahead : asked.seals.get(place - 1);
            if (seal(ahead, mark) != asked.seals.get(place)) {
                return place;
            }
        }
        return -1;
    }

    boolean isTrue(int copy) {
        index(isCopy(copy));
        Copy asked = copies.get(copy);
        boolean same = true;
        for (int place = 0; place < asked.told.size(); place++) {
            Item act = chain(asked.kiosk).get(asked.first + place);
            same &= act.seal == asked.seals.get(place);
            for (int part = 0; part < 6; part++) {
                same &= asked.out.contains(part) || asked.told.get(place)[part] == act.parts[part];
            }
        }
        return same;
    }

    // ---- for whoever draws calls

    int copies() {
        return copies.size();
    }

    int amountMade(int kiosk, int record) {
        return chain(kiosk).get(record).amount;
    }

    int giverInLine(int power, int back) {
        List<Integer> line = line(power);
        return all.get(line.get(back % line.size())).giver;
    }

    int depth(int power) {
        return all.get(power).depth;
    }

    /** The terms of a power as a draft that is within it but for the depth, which may be too great. */
    int[] draftWithin(int power, int less) {
        Power source = all.get(power);
        int scope = 0;
        for (int k : source.kinds) {
            scope |= 1 << k;
        }
        int limit = Math.max(1, source.limit - less);
        int hours = Math.max(0, source.last - now - less);
        return new int[] {scope, limit, Math.max(1, source.total - 4 * less), hours, Math.max(0, source.depth - 1)};
    }

    // ---- terms

    private List<Item> readAt(int kiosk) {
        List<Item> read = new ArrayList<>();
        for (Item item : items) {
            if (item.readers.contains(kiosk)) {
                read.add(item);
            }
        }
        return read;
    }

    private List<Integer> line(int power) {
        List<Integer> line = new ArrayList<>();
        for (int one = power; one >= 0; one = all.get(one).source) {
            line.add(one);
        }
        return line;
    }

    private boolean known(List<Item> some, int power) {
        boolean known = true;
        for (int one : line(power)) {
            known &= some.contains(all.get(one).item);
        }
        return known;
    }

    private boolean revoked(List<Item> some, int power) {
        boolean revoked = false;
        for (Item item : some) {
            revoked |= item.sort == 'r' && line(power).contains(item.power);
        }
        return revoked;
    }

    private boolean over(int power, int hour) {
        boolean over = false;
        for (int one : line(power)) {
            over |= hour > all.get(one).last;
        }
        return over;
    }

    private int done(List<Item> some, int power) {
        int together = 0;
        for (Item item : some) {
            together += item.sort == 'a' && line(item.power).contains(power) ? item.amount : 0;
        }
        return together;
    }

    private boolean deputyActs(List<Item> some, int kiosk, int hour) {
        boolean deputy = false;
        for (Item item : some) {
            deputy |= item.sort == 'd' && item.deputed == kiosk && item.from <= hour && hour <= item.to;
        }
        return deputy;
    }

    private int reason(List<Item> some, Item act) {
        boolean aboveLimit = false;
        boolean aboveTotal = false;
        for (int one : line(act.power)) {
            aboveLimit |= act.amount > all.get(one).limit;
            aboveTotal |= done(some, one) + act.amount > all.get(one).total;
        }
        boolean[] holds = {
            false, !known(some, act.power), act.person != all.get(act.power).holder, revoked(some, act.power),
            over(act.power, act.hour), !all.get(act.power).kinds.contains(act.kind), aboveLimit, aboveTotal,
            deputyActs(some, act.kiosk, act.hour) != (act.officer == 1),
        };
        for (int reason = 1; reason <= 8; reason++) {
            if (holds[reason]) {
                return reason;
            }
        }
        return 0;
    }
}
