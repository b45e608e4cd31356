/** Seals and marks, word by word as the document tells them, in long arithmetic. */
final class Seals {

    static long ofTwo(long a, long b) {
        return (131 * a + 17 * b + 7) % 1000003;
    }

    static long salt(int kiosk, int record, int part) {
        return 7919L * kiosk + 613L * record + 97L * part;
    }

    static long markOfPart(int kiosk, int record, int part, int told) {
        return ofTwo(salt(kiosk, record, part), told);
    }

    static long markOfRecord(int kiosk, int record, int[] parts) {
        long mark = 1;
        for (int part = 0; part < 6; part++) {
            mark = ofTwo(mark, markOfPart(kiosk, record, part, parts[part]));
        }
        return mark;
    }

    static long sealAhead(NotaryKiosk x, int kiosk, int record) {
        return record == 0 ? 1000 + kiosk : x.seal(kiosk, record - 1);
    }

    /** The seal with which a record comes out by what it tells now. */
    static int ofRecord(NotaryKiosk x, int kiosk, int record) {
        return (int) ofTwo(sealAhead(x, kiosk, record), markOfRecord(kiosk, record, partsOf(x, kiosk, record)));
    }

    static int[] partsOf(NotaryKiosk x, int kiosk, int record) {
        int[] parts = new int[6];
        for (int part = 0; part < 6; part++) {
            parts[part] = x.part(kiosk, record, part);
        }
        return parts;
    }

    private Seals() {
    }
}
