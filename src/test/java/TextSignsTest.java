/** Promise 4: each place of an entry with each of the 256 signs, at the beginning of a text and behind an entry. */
public final class TextSignsTest {
    private static final String DIGITS = "0123456789";
    private static final String KINDS = "rdkwbh";

    // What may follow a beginning of an entry. It is a whole entry just if a semicolon may.
    private static final String[][] PLACES = {
        {"", KINDS},
        {"r", "1"}, {"r1", DIGITS}, {"r10", DIGITS}, {"r19", DIGITS}, {"r100", DIGITS}, {"r199", DIGITS},
        {"r1000", "01234567"}, {"r1999", "01234567"}, {"r10000", "1234567;"}, {"r10001", "234567;"},
        {"r10002", "34567;"}, {"r10003", "4567;"}, {"r10004", "567;"}, {"r10005", "67;"}, {"r10006", "7;"},
        {"r10007", ";"}, {"r100005", "67;"}, {"r100007", ";"}, {"r10000123456", "7;"}, {"r100001234567", ";"},
        {"d", "012345"}, {"d0", "1"}, {"d5", "1"}, {"d51", DIGITS}, {"d519", DIGITS}, {"d5199", DIGITS},
        {"d51999", "-"}, {"d51999-", "1"}, {"d51999-1", DIGITS}, {"d51999-10", DIGITS}, {"d51999-100", DIGITS},
        {"d51999-1000", ";"}, {"d01000-1999", ";"},
        {"k", DIGITS}, {"k0", "1"}, {"k9", "1"}, {"k91", DIGITS}, {"k919", DIGITS}, {"k9199", DIGITS}, {"k91999", ";"},
        {"w", DIGITS}, {"b", DIGITS}, {"w0", "01234567."}, {"b9", "01234567."}, {"w0.", DIGITS}, {"b00", DIGITS},
        {"w07", DIGITS}, {"w0.0", DIGITS}, {"b9.9", DIGITS}, {"w0.00", "0123;"}, {"b9799", "0123;"},
        {"w0.000", "123;"}, {"w0.001", "23;"}, {"w0.002", "3;"}, {"w0.003", ";"}, {"b0.0002", "3;"},
        {"b0.00012", "3;"}, {"b0.0003", ";"}, {"b0.000123", ";"},
        {"h", "012"}, {"h0", DIGITS}, {"h1", DIGITS}, {"h2", "0123"}, {"h00", "012345"}, {"h09", "012345"},
        {"h19", "012345"}, {"h20", "012345"}, {"h23", "012345"}, {"h000", ";"}, {"h235", ";"},
    };

    public static void main(String[] args) {
        for (String[] place : PLACES) {
            each("", place[0], place[1]);
            each("w0.990123;", place[0], place[1]);
            each("r19990;h235;", place[0], place[1]);
        }
        endOfFullText();
        Check.end();
    }

    private static int position(String text) {
        CordSeals x = new CordSeals();
        Check.write(x, text);
        return x.errorPosition();
    }

    private static void each(String before, String entry, String allowed) {
        String text = before + entry;
        boolean whole = allowed.indexOf(';') >= 0;
        Check.same("errorPosition of " + text, position(text), whole ? CordSeals.NONE : text.length());
        for (char sign = 0; sign <= 255; sign++) {
            String longer = text + sign;
            int got = position(longer);
            if (allowed.indexOf(sign) < 0) {
                Check.same("errorPosition of " + text + " and sign " + (int) sign, got, text.length());
                Check.same("errorPosition with more behind it", position(longer + ";r11000"), text.length());
            } else if (sign == ';') {
                Check.same("errorPosition of " + longer, got, longer.length());
            } else {
                Check.holds("sign " + sign + " behind " + text, got == CordSeals.NONE || got == longer.length());
            }
        }
    }

    private static void endOfFullText() {
        String entries = "d01000-1999;".repeat(9);
        Check.same("a full text that ends too soon", position(entries + "d01000-1999;"), 120);
        Check.same("a full text that ends within an entry", position(entries + "r199901234;w"), 120);
        Check.same("a wrong last sign", position(entries + "d01000-1999 "), 119);
        Check.same("119 signs that end too soon", position(entries + "d01000-199;"), 118);
        Check.same("119 signs that are a collection", position(entries + "d01000-1999"), CordSeals.NONE);
        Check.same("120 signs that are a collection", position(entries + "r19990123456"), CordSeals.NONE);
        Check.same("120 signs with a wrong first one", position("D" + entries.substring(1) + "r19990123456"), 0);
    }
}
