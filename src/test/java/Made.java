import java.util.function.Consumer;

/**
 * Objects on which the tests ask. As an object is used for 512 calls at most, none of these takes
 * more than 200.
 */
final class Made {

    static NotaryKiosk by(Consumer<NotaryKiosk> recipe) {
        NotaryKiosk x = new NotaryKiosk();
        recipe.accept(x);
        return x;
    }

    static void nothing(NotaryKiosk y) {
    }

    /**
     * In the hour 2: the powers 0 (1 to 2) and 1 (passed on, 2 to 3), 7 pieces of news, 3 records of the
     * kiosk 1 of which the last one is broken, 2 copies of 2 records (the copy 0 is without the amounts),
     * and unread mail. Calls.ROWS has the numbers of these.
     */
    static void someOfAll(NotaryKiosk y) {
        y.join(0, 1);
        y.join(1, 2);
        y.draft(7, 100, 1000, 50, 2);
        y.grant(0, 1, 2);
        y.draft(3, 80, 500, 40, 1);
        y.passOn(0, 0, 3);
        y.depute(1, 5, 5);
        y.pass(1);
        y.read(1);
        y.act(1, 2, 0, 10);
        y.act(1, 3, 1, 20);
        y.act(1, 2, 0, 30);
        y.copy(1, 0, 1, 8);
        y.copy(1, 1, 2, 0);
        y.revoke(0, 1, 1);
        y.pass(1);
        y.tamper(1, 2, 31);
        y.draft(3, 50, 60, 9, 0);
        y.prepare(0, 1);
    }

    static void allJoined(NotaryKiosk y) {
        for (int kiosk = 0; kiosk < 6; kiosk++) {
            for (int other = 0; other < kiosk; other++) {
                y.join(kiosk, other);
            }
        }
    }

    /** 0 to 1 to 2 to 3 to 4 to 5. */
    static void joinedInARow(NotaryKiosk y) {
        for (int kiosk = 0; kiosk < 5; kiosk++) {
            y.join(kiosk, kiosk + 1);
        }
    }

    static Consumer<NotaryKiosk> inTheHour(int hour) {
        return y -> passTo(y, hour);
    }

    static void passTo(NotaryKiosk y, int hour) {
        for (int left = hour - y.hour(); left > 0; left -= 50) {
            y.pass(Math.min(50, left));
        }
    }

    /** The powers 0, 1 and 2 at the kiosk 0, from 1 to 2 to 3 to 4, of the depths 2, 1 and 0. */
    static void line(NotaryKiosk y) {
        y.draft(63, 100, 1000, 50, 2);
        y.grant(0, 1, 2);
        y.draft(63, 100, 1000, 50, 1);
        y.passOn(0, 0, 3);
        y.draft(63, 100, 1000, 50, 0);
        y.passOn(0, 1, 4);
    }

    /** The powers 0, 1, 2 and 3 of the depths 3, 2, 1 and 0, from 1 to 2 to 3 to 4 to 5, with less of all each time. */
    static void longLine(NotaryKiosk y) {
        y.draft(63, 100, 200, 40, 3);
        y.grant(0, 1, 2);
        y.draft(31, 80, 150, 30, 2);
        y.passOn(0, 0, 3);
        y.draft(15, 60, 120, 20, 1);
        y.passOn(0, 1, 4);
        y.draft(7, 40, 100, 10, 0);
        y.passOn(0, 2, 5);
    }

    /** One power of the person 2 at the kiosk 0, which can be passed on; the draft is within it. */
    static void onePower(NotaryKiosk y) {
        y.draft(63, 10, 1000, 10, 1);
        y.grant(0, 1, 2);
        y.draft(63, 10, 1000, 10, 0);
    }

    /** One power, and acts with it; so many pieces of news in all. */
    static Consumer<NotaryKiosk> withNews(int pieces) {
        return y -> {
            onePower(y);
            for (int piece = 1; piece < pieces; piece++) {
                y.act(0, 2, 0, 1);
            }
        };
    }

    /** So many powers, of which the power 0 can be passed on; the draft is within it. */
    static Consumer<NotaryKiosk> withPowers(int powers) {
        return y -> {
            onePower(y);
            for (int power = 1; power < powers; power++) {
                y.grant(power % 6, 1, 2);
            }
        };
    }

    /** Four records of the kiosk 3, of the kinds 0 to 3 and the amounts 10, 20, 30 and 40, made for the person 1. */
    static void fourRecords(NotaryKiosk y) {
        y.grant(3, 0, 1);
        for (int record = 0; record < 4; record++) {
            y.prepare(0, record);
            y.act(3, 1, 0, 10 * record + 10);
        }
    }

    static Consumer<NotaryKiosk> withCopies(int copies) {
        return y -> {
            fourRecords(y);
            for (int copy = 0; copy < copies; copy++) {
                y.copy(3, copy % 4, 3, 5 * copy);
            }
        };
    }

    /** Lets news go and be read at all kiosks that are joined to where it is. */
    static void passAndReadAll(NotaryKiosk y) {
        y.pass(5);
        for (int kiosk = 0; kiosk < 6; kiosk++) {
            y.read(kiosk);
        }
    }

    private Made() {
    }
}
