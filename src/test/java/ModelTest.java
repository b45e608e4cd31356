import java.util.Arrays;

/**
 * Long runs of calls on the program and on the model of it, answer by answer. The calls are drawn
 * by a counter of its own, so that every run of this test is the same.
 */
public final class ModelTest {

    private static final int RUNS = 2500;
    private static final int CALLS = 512;
    private static final String[] NAMES = {
        "join", "cut", "pass", "read", "draft", "grant", "passOn", "revoke", "depute", "prepare", "act", "tamper",
        "copy", "forge", "hour", "news", "powers", "records", "areJoined", "came", "cameByLinks", "isRead", "mail",
        "source", "holder", "isGood", "done", "beyond", "against", "choices", "stands", "fault", "standing", "pieceOf",
        "part", "seal", "broken", "size", "copied", "brokenCopy", "isTrue",
    };
    private static final int CHANGING = 14;
    private static final int[] WEIGHTS = {6, 2, 5, 2, 6, 4, 8, 2, 2, 3, 24, 2, 1, 2};

    private static long drawn = 1;
    private static final int[] answered = new int[NAMES.length];
    private static final int[] refused = new int[NAMES.length];
    private static final int[] reasons = new int[9];
    private static final int[] faults = new int[9];

    private NotaryKiosk x;
    private Model model;
    private int style;

    public static void main(String[] args) {
        for (int run = 0; run < RUNS; run++) {
            new ModelTest().run(run);
        }
        everyAnswerWasSeen();
        Expect.end("ModelTest");
    }

    private static void everyAnswerWasSeen() {
        for (int op = 0; op < NAMES.length; op++) {
            Expect.is(NAMES[op] + " was answered often", answered[op] > 200, true);
            boolean never = op >= 14 && op <= 16 || op == 32;
            Expect.is(NAMES[op] + " was refused", refused[op] > 0, !never);
        }
        for (int reason = 0; reason <= 8; reason++) {
            Expect.is("reason " + reason + " was seen", reasons[reason] > 100, true);
        }
        for (int fault : new int[] {0, 3, 7, 8}) {
            Expect.is("fault " + fault + " was seen", faults[fault] > 100, true);
        }
    }

    private void run(int number) {
        x = new NotaryKiosk();
        model = new Model();
        style = number % 4;
        for (int call = 0; call < CALLS; call++) {
            int op = drawCall();
            int[] a = drawArguments(op);
            String want = Expect.told(() -> onModel(op, a));
            String got = Expect.told(() -> onProgram(op, a));
            count(op, want);
            if (!want.equals(got)) {
                Expect.is("run " + number + ", call " + call + ", " + NAMES[op] + Arrays.toString(a), got, want);
                return;
            }
        }
        Expect.is("run " + number, "as due", "as due");
    }

    private static void count(int op, String answer) {
        boolean thrown = answer.endsWith("Exception");
        (thrown ? refused : answered)[op]++;
        if (!thrown && NAMES[op].equals("against")) {
            reasons[Integer.parseInt(answer)]++;
        }
        if (!thrown && NAMES[op].equals("fault")) {
            faults[Integer.parseInt(answer)]++;
        }
    }

    private static int draw(int bound) {
        drawn = drawn * 6364136223846793005L + 1442695040888963407L;
        return (int) ((drawn >>> 33) % bound);
    }

    private static boolean oneIn(int many) {
        return draw(many) == 0;
    }

    private int drawCall() {
        if (oneIn(3)) {
            return CHANGING + draw(NAMES.length - CHANGING);
        }
        int all = 0;
        for (int weight : WEIGHTS) {
            all += weight;
        }
        int at = draw(all);
        for (int op = 0; op < CHANGING; op++) {
            at -= WEIGHTS[op];
            if (at < 0) {
                return op;
            }
        }
        return 0;
    }

    /** Now and then one that is just out of range, otherwise 0 to count - 1. */
    private static int pick(int count) {
        if (oneIn(50)) {
            return oneIn(2) ? -1 : count;
        }
        return count > 0 ? draw(count) : 0;
    }

    private int kiosk() {
        return style == 0 && !oneIn(4) ? draw(2) : pick(6);
    }

    private int recentPower() {
        int powers = model.powers();
        return powers > 4 && !oneIn(3) ? powers - 1 - draw(4) : pick(powers);
    }

    /** Mostly a kiosk where the power is good. */
    private int kioskFor(int power) {
        int kiosk = kiosk();
        boolean there = power >= 0 && power < model.powers();
        for (int tries = 0; there && tries < 6 && kiosk >= 0 && kiosk < 6 && !oneIn(10); tries++) {
            if (model.isGood(kiosk, power)) {
                return kiosk;
            }
            kiosk = (kiosk + 1) % 6;
        }
        return kiosk;
    }

    private int holderOf(int power) {
        boolean there = power >= 0 && power < model.powers();
        return there && !oneIn(12) ? model.holder(power) : pick(10);
    }

    private int amount() {
        int[] edges = {0, 1, 10000, 10001};
        if (oneIn(20)) {
            return edges[draw(4)];
        }
        return 1 + draw(style == 1 ? 60 : 25);
    }

    private int recordOf(int kiosk) {
        return pick(kiosk >= 0 && kiosk < 6 ? model.records(kiosk) : 1);
    }

    private int[] drawArguments(int op) {
        int power = recentPower();
        int kiosk = oneIn(2) ? kiosk() : kioskFor(power);
        int record = recordOf(kiosk);
        int copy = pick(model.copies());
        int place = pick(copy >= 0 && copy < model.copies() ? model.size(copy) : 1);
        switch (NAMES[op]) {
            case "pass": return new int[] {oneIn(30) ? draw(54) - 1 : 1 + draw(style == 3 ? 12 : 3)};
            case "draft": return drawDraft();
            case "grant": return new int[] {kiosk, pick(10), pick(10)};
            case "passOn": return drawPassOn(power);
            case "revoke": return new int[] {kioskFor(power), giverOf(power), power};
            case "depute": return new int[] {kiosk, hoursToDepute(), hoursToDepute()};
            case "prepare": return new int[] {oneIn(20) ? draw(4) - 1 : draw(5) / 4, oneIn(25) ? draw(9) - 1 : draw(2)};
            case "act": case "against": return drawAct(power);
            case "choices": return new int[] {kiosk, pick(10), amount()};
            case "tamper": return new int[] {kiosk, record, amountToTell(kiosk, record)};
            case "copy": return new int[] {kiosk, Math.min(record, recordOf(kiosk)), record, partsToLeaveOut()};
            case "forge": return new int[] {copy, place, pick(6), oneIn(3) ? amount() : draw(12)};
            case "came": case "cameByLinks": case "isRead": return new int[] {kiosk, pick(model.news())};
            case "source": case "holder": case "beyond": return new int[] {power};
            case "isGood": case "done": return new int[] {kiosk, power};
            case "part": return new int[] {kiosk, record, pick(6)};
            case "copied": return new int[] {copy, place, pick(6)};
            case "size": case "brokenCopy": case "isTrue": return new int[] {copy};
            case "stands": case "fault": case "pieceOf": case "seal": return new int[] {kiosk, record};
            default: return new int[] {kiosk, kiosk()};
        }
    }

    private static int hoursToDepute() {
        return oneIn(15) ? draw(105) - 2 : draw(6);
    }

    private static int partsToLeaveOut() {
        return oneIn(4) ? draw(68) - 2 : draw(8);
    }

    private int amountToTell(int kiosk, int record) {
        return oneIn(2) && isIn(kiosk, record) ? model.amountMade(kiosk, record) : amount();
    }

    private boolean isIn(int kiosk, int record) {
        return kiosk >= 0 && kiosk < 6 && record >= 0 && record < model.records(kiosk);
    }

    private int[] drawPassOn(int first) {
        int power = first;
        for (int tries = 0; tries < 5 && power >= 0 && power < model.powers() && model.depth(power) == 0; tries++) {
            power = recentPower();
        }
        return new int[] {kioskFor(power), power, pick(10)};
    }

    /** Mostly one against which there is no reason, or that of its total, if a few tries find one. */
    private int[] drawAct(int first) {
        int power = first;
        int[] drawn = {kioskFor(power), holderOf(power), power, amount()};
        for (int tries = 0; tries < 8 && model.powers() > 0 && !oneIn(12); tries++) {
            String reason = Expect.told(() -> model.against(drawn[0], drawn[1], drawn[2], drawn[3]));
            if (reason.equals("0") || reason.equals("7") && !oneIn(4)) {
                return drawn;
            }
            drawn[2] = oneIn(2) ? draw(model.powers()) : recentPower();
            drawn[0] = kioskFor(drawn[2]);
            drawn[1] = holderOf(drawn[2]);
        }
        return drawn;
    }

    private int giverOf(int power) {
        boolean there = power >= 0 && power < model.powers();
        return there && !oneIn(5) ? model.giverInLine(power, draw(4)) : pick(10);
    }

    private int[] drawDraft() {
        int[] wrong = {63, 10000, 100000, 400, 3};
        if (oneIn(15)) {
            int at = draw(5);
            wrong[at] = oneIn(2) ? -1 : wrong[at] + 1;
            return wrong;
        }
        if (model.powers() > 0 && !oneIn(3)) {
            return model.draftWithin(Math.floorMod(recentPower(), model.powers()), draw(3));
        }
        int depth = draw(4);
        int scope = oneIn(3) ? 63 : 1 + 2 * draw(32);
        int limit = 20 + 30 * depth + draw(10);
        int total = 40 + 30 * depth + draw(50);
        int hours = oneIn(8) ? draw(401) : 5 + 20 * depth + draw(20);
        return new int[] {scope, limit, total, hours, depth};
    }

    private Object onModel(int op, int[] a) {
        switch (NAMES[op]) {
            case "join": return model.join(a[0], a[1]);
            case "cut": return model.cut(a[0], a[1]);
            case "pass": return model.pass(a[0]);
            case "read": return model.read(a[0]);
            case "draft": return model.draft(a[0], a[1], a[2], a[3], a[4]);
            case "grant": return model.grant(a[0], a[1], a[2]);
            case "passOn": return model.passOn(a[0], a[1], a[2]);
            case "revoke": return model.revoke(a[0], a[1], a[2]);
            case "depute": return model.depute(a[0], a[1], a[2]);
            case "prepare": return model.prepare(a[0], a[1]);
            case "act": return model.act(a[0], a[1], a[2], a[3]);
            case "tamper": return model.tamper(a[0], a[1], a[2]);
            case "copy": return model.copy(a[0], a[1], a[2], a[3]);
            case "forge": return model.forge(a[0], a[1], a[2], a[3]);
            case "hour": return model.hour();
            case "news": return model.news();
            case "powers": return model.powers();
            case "records": return model.records(a[0]);
            case "areJoined": return model.areJoined(a[0], a[1]);
            case "came": return model.came(a[0], a[1]);
            case "cameByLinks": return model.cameByLinks(a[0], a[1]);
            case "isRead": return model.isRead(a[0], a[1]);
            case "mail": return model.mail(a[0]);
            case "source": return model.source(a[0]);
            case "holder": return model.holder(a[0]);
            case "isGood": return model.isGood(a[0], a[1]);
            case "done": return model.done(a[0], a[1]);
            case "beyond": return model.beyond(a[0]);
            case "against": return model.against(a[0], a[1], a[2], a[3]);
            case "choices": return model.choices(a[0], a[1], a[2]);
            case "stands": return model.stands(a[0], a[1]);
            case "fault": return model.fault(a[0], a[1]);
            case "standing": return model.standing();
            case "pieceOf": return model.pieceOf(a[0], a[1]);
            case "part": return model.part(a[0], a[1], a[2]);
            case "seal": return model.seal(a[0], a[1]);
            case "broken": return model.broken(a[0]);
            case "size": return model.size(a[0]);
            case "copied": return model.copied(a[0], a[1], a[2]);
            case "brokenCopy": return model.brokenCopy(a[0]);
            default: return model.isTrue(a[0]);
        }
    }

    private Object onProgram(int op, int[] a) {
        switch (NAMES[op]) {
            case "join": return x.join(a[0], a[1]);
            case "cut": return x.cut(a[0], a[1]);
            case "pass": return x.pass(a[0]);
            case "read": return x.read(a[0]);
            case "draft":
                x.draft(a[0], a[1], a[2], a[3], a[4]);
                return 0;
            case "grant": return x.grant(a[0], a[1], a[2]);
            case "passOn": return x.passOn(a[0], a[1], a[2]);
            case "revoke": return x.revoke(a[0], a[1], a[2]);
            case "depute": return x.depute(a[0], a[1], a[2]);
            case "prepare":
                x.prepare(a[0], a[1]);
                return 0;
            case "act": return x.act(a[0], a[1], a[2], a[3]);
            case "tamper": return x.tamper(a[0], a[1], a[2]);
            case "copy": return x.copy(a[0], a[1], a[2], a[3]);
            case "forge": return x.forge(a[0], a[1], a[2], a[3]);
            case "hour": return x.hour();
            case "news": return x.news();
            case "powers": return x.powers();
            case "records": return x.records(a[0]);
            case "areJoined": return x.areJoined(a[0], a[1]);
            case "came": return x.came(a[0], a[1]);
            case "cameByLinks": return x.cameByLinks(a[0], a[1]);
            case "isRead": return x.isRead(a[0], a[1]);
            case "mail": return x.mail(a[0]);
            case "source": return x.source(a[0]);
            case "holder": return x.holder(a[0]);
            case "isGood": return x.isGood(a[0], a[1]);
            case "done": return x.done(a[0], a[1]);
            case "beyond": return x.beyond(a[0]);
            case "against": return x.against(a[0], a[1], a[2], a[3]);
            case "choices": return x.choices(a[0], a[1], a[2]);
            case "stands": return x.stands(a[0], a[1]);
            case "fault": return x.fault(a[0], a[1]);
            case "standing": return x.standing();
            case "pieceOf": return x.pieceOf(a[0], a[1]);
            case "part": return x.part(a[0], a[1], a[2]);
            case "seal": return x.seal(a[0], a[1]);
            case "broken": return x.broken(a[0]);
            case "size": return x.size(a[0]);
            case "copied": return x.copied(a[0], a[1], a[2]);
            case "brokenCopy": return x.brokenCopy(a[0]);
            default: return x.isTrue(a[0]);
        }
    }
}
