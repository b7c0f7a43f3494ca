/**
 * A collection in which as much is full as can be: 10 reigns, 10 dies with 4 cracks each, 24 seals, a shelf of 6, a
 * text of 120 characters that is a collection.
 *
 * Reign r begins in 1000 + 100 * r and has the colour r % 8 alone. Die d was used from 1000 to 1999 and has cracks in
 * 1100 + d, 1200 + d, 1300 + d and 1400 + d; dies 0 to 8 are of house 0, die 9 is of house 5. Seals 0 and 23 are of
 * die 9 and on no shelf, seal s of those between is of die s % 9. All are of wax with 10 bubbles, without a cord and
 * without a crack: a seal of die d is possible from 1000 to 1100 + d. Seals 1 to 6 are on shelf 0, seal 6 + h is on
 * shelf h. None hangs on a charter, and no slot is saved.
 */
final class Full {
    private Full() {
    }

    static CordSeals make() {
        CordSeals x = new CordSeals();
        for (int r = 0; r < 10; r++) {
            x.reign(1000 + 100 * r, 1 << r % 8);
        }
        for (int d = 0; d < 10; d++) {
            x.die(d == 9 ? 5 : 0, 1000, 1999);
            for (int k = 0; k < 4; k++) {
                x.crack(d, 1100 + 100 * k + d);
            }
        }
        for (int s = 0; s < 24; s++) {
            x.seal(dieOf(s), 0, CordSeals.NONE, 10, 0);
        }
        for (int k = 0; k < 6; k++) {
            x.shelve(1 + k, 0, k);
        }
        for (int h = 1; h < 6; h++) {
            x.shelve(6 + h, h, 0);
        }
        Check.write(x, text());
        return x;
    }

    static int dieOf(int s) {
        return s == 0 || s == 23 ? 9 : s % 9;
    }

    /** 120 characters: a die, 17 seals, the last of them with a crack that the die does not have. */
    static String text() {
        return "d01000-1999" + ";w0.00".repeat(18) + "0";
    }
}
