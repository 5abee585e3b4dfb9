/** What the tests tell a village: texts on the tape, laws, and rows of parcels. */
final class Told {
    static final int SALE = 0;
    static final int GIFT = 1;
    static final int SWAP = 2;

    private Told() {
    }

    /** Packs a text into rows of 24 signs; a byte of 0 is left out by feed(). */
    static int feed(FirstComer x, String text) {
        int length = x.count(7);
        for (int at = 0; at < text.length(); at += 24) {
            long[] row = new long[3];
            for (int i = 0; i < 24; i++) {
                row[i / 8] = row[i / 8] << 8 | (at + i < text.length() ? text.charAt(at + i) : 0);
            }
            length = x.feed(row[0], row[1], row[2]);
        }
        return length;
    }

    static int law(FirstComer x, String text) {
        feed(x, text);
        return x.law();
    }

    /** So many parcels, the i-th of person i. */
    static FirstComer parcels(int parcels) {
        FirstComer x = new FirstComer();
        for (int i = 0; i < parcels; i++) {
            x.parcel(i, i);
        }
        return x;
    }

    static FirstComer parcels(int parcels, String law) {
        FirstComer x = parcels(parcels);
        int fault = law(x, law);
        if (fault != 0) {
            throw new IllegalStateException("fault " + fault % 16 + " at " + fault / 16 + " of <" + law + ">");
        }
        return x;
    }

    static String times(int n, String text) {
        return text.repeat(n);
    }
}
