/** Promises 2 to 5: append, clearText, errorPosition, load. */
public final class TextTest {
    public static void main(String[] args) {
        appending();
        clearing();
        rightTexts();
        wrongReigns();
        wrongDiesAndCracks();
        wrongSealsAndHangings();
        loading();
        loadingMakesNew();
        loadingWrongText();
        fullText();
        Check.end();
    }

    private static void appending() {
        CordSeals x = new CordSeals();
        Check.same("append(0)", x.append(0), 1);
        Check.same("append(255)", x.append(255), 2);
        Check.badArgument(x, "append(256)", () -> x.append(256));
        Check.badArgument(x, "append(-1)", () -> x.append(-1));
        Check.badArgument(x, "append(max)", () -> x.append(Integer.MAX_VALUE));
        Check.badArgument(x, "append(min)", () -> x.append(Integer.MIN_VALUE));
        for (int length = 3; length <= 120; length++) {
            Check.same("append to " + length, x.append('r'), length);
        }
        Check.badState(x, "append to a full text", () -> x.append('r'));
        Check.badArgument(x, "append(256) to a full text", () -> x.append(256));
        Check.same("clearText of a full text", x.clearText(), 120);
        Check.same("append behind clearText", x.append('r'), 1);
    }

    private static void clearing() {
        CordSeals x = new CordSeals();
        Check.same("clearText of a new object", x.clearText(), 0);
        Check.write(x, "r11000");
        Check.same("clearText", x.clearText(), 6);
        Check.same("clearText again", x.clearText(), 0);
        Check.same("errorPosition of no text", x.errorPosition(), 0);
    }

    private static void position(String text, int due) {
        CordSeals x = new CordSeals();
        Check.write(x, text);
        Check.same("errorPosition of " + text, x.errorPosition(), due);
        Check.same("errorPosition of " + text + " again", x.errorPosition(), due);
        Check.same("length of " + text, x.clearText(), text.length());
        if (due != CordSeals.NONE) {
            for (int end = 0; end < due; end++) {
                Check.write(x, text.substring(0, end));
                int got = x.errorPosition();
                Check.holds("beginning of " + text, got == end || got == CordSeals.NONE);
            }
        }
    }

    private static void rightTexts() {
        String[] texts = {"r10000", "r19997", "r110001234567", "r110007", "r115024", "d01000-1999", "d51999-1000",
            "k01000", "k91999", "w00000", "w97990123", "b9.99", "b0.003", "b0.0013", "h000", "h195", "h235",
            "r11000;r11000", "w0.00;w0.000;b0.000123;h000;k01120;d01100-1100;r11000"};
        for (String text : texts) {
            position(text, CordSeals.NONE);
        }
    }

    private static void wrongReigns() {
        position("", 0);
        position("x", 0);
        position(" r11000", 0);
        position("R11000", 0);
        position(";r11000", 0);
        position("1", 0);
        position("r", 1);
        position("r0", 1);
        position("r2000", 1);
        position("r1", 2);
        position("r1a", 2);
        position("r11", 3);
        position("r110", 4);
        position("r110-", 4);
        position("r1100", 5);
        position("r1100;", 5);
        position("r11008", 5);
        position("r1100 0", 5);
        position("r110000", 6);
        position("r110010", 6);
        position("r1100017;", 9);
        position("r11000177", 8);
        position("r110007;x", 8);
        position("r11000;;r11000", 7);
        position("r11000 ;", 6);
        position("r11000.", 6);
        position("r11000r", 6);
        position("r11000;" + (char) 0, 7);
        position("r11000" + (char) 255, 6);
    }

    private static void wrongDiesAndCracks() {
        position("d", 1);
        position("d6", 1);
        position("d-", 1);
        position("d0", 2);
        position("d02", 2);
        position("d01", 3);
        position("d01000", 6);
        position("d01000:", 6);
        position("d010000", 6);
        position("d01000-", 7);
        position("d01000-2", 7);
        position("d01000-199", 10);
        position("d01000-1999-", 11);
        position("d01000-19990", 11);
        position("k", 1);
        position("ka", 1);
        position("k:", 1);
        position("k9", 2);
        position("k90", 2);
        position("k9100", 5);
        position("k91000 ", 6);
        position("k910000", 6);
    }

    private static void wrongSealsAndHangings() {
        position("w", 1);
        position("w.", 1);
        position("w:", 1);
        position("b:", 1);
        position("b/", 1);
        position("b0", 2);
        position("b08", 2);
        position("b0-", 2);
        position("b0.", 3);
        position("b0..", 3);
        position("b0.0", 4);
        position("b0.0;", 4);
        position("b0.004", 5);
        position("w0.000 ", 6);
        position("w0.0000", 6);
        position("w0.0010", 6);
        position("w0.0013;", 8);
        position("w0.000123w", 9);
        position("w0.0001234", 9);
        position("h", 1);
        position("h3", 1);
        position("h.", 1);
        position("h2", 2);
        position("h24", 2);
        position("h29", 2);
        position("h1a", 2);
        position("h19", 3);
        position("h196", 3);
        position("h236", 3);
        position("h2300", 4);
    }

    private static void loading() {
        CordSeals x = new CordSeals();
        String text = "r1100013;r115024;r12007;d01090-1180;d31140-1200;k01120;k01130;w00051;b1299;w1.00;h003;h020";
        Check.write(x, text);
        Check.same("load", x.load(), 0);
        Check.same("reigns", x.about(0), 3);
        Check.same("dies", x.about(1), 2);
        Check.same("seals", x.about(2), 3);
        Check.same("first year of reign 1", x.ofReign(1, 0), 1150);
        Check.same("colours of reign 0", x.ofReign(0, 2), 0b1011);
        Check.same("colours of reign 2", x.ofReign(2, 2), 0b10000000);
        Check.same("house of die 1", x.ofDie(1, 0), 3);
        Check.same("first year of die 1", x.ofDie(1, 1), 1140);
        Check.same("last year of die 1", x.ofDie(1, 2), 1200);
        Check.same("crack 1 of die 0", x.crackYear(0, 1), 1130);
        Check.same("material of seal 0", x.ofSeal(0, 1), 0);
        Check.same("bubbles of seal 0", x.ofSeal(0, 3), 5);
        Check.same("cracks of seal 0", x.ofSeal(0, 4), 0b10);
        Check.same("charter of seal 0", x.ofSeal(0, 5), 3);
        Check.same("die of seal 1", x.ofSeal(1, 0), 1);
        Check.same("material of seal 1", x.ofSeal(1, 1), 1);
        Check.same("colour of seal 1", x.ofSeal(1, 2), 2);
        Check.same("bubbles of seal 1", x.ofSeal(1, 3), 99);
        Check.same("colour of seal 2", x.ofSeal(2, 2), CordSeals.NONE);
        Check.same("charter of seal 2", x.ofSeal(2, 5), 0);
        Check.same("text behind load", x.clearText(), text.length());
    }

    // Each of these entries but the good ones has to be left out, and nothing of it may stay.
    private static void loadingMakesNew() {
        CordSeals x = Sample.make();
        x.set(0, 77);
        x.set(1, 78);
        x.hang(0, 0);
        x.shelve(0, 0, 0);
        x.save(0);
        x.save(1);
        Check.write(x, "r12000;r12001;r11991;d01200-1100;d01300-1400;k11300;k01300;k01300;"
            + "w1.00;w0.001;w0.000;h010;h005");
        Check.same("load with wrong entries", x.load(), 8);
        Check.same("reigns behind it", x.about(0), 1);
        Check.same("dies behind it", x.about(1), 1);
        Check.same("cracks behind it", x.ofDie(0, 3), 1);
        Check.same("seals behind it", x.about(2), 1);
        Check.same("hanging behind it", x.about(5), 1);
        Check.same("charter of seal 0 behind it", x.ofSeal(0, 5), 5);
        Check.same("seals on shelves behind it", x.about(7), 0);
        Check.badState(x, "undo behind load", x::undo);
        Check.badState(x, "restore(0) behind load", () -> x.restore(0));
        Check.badState(x, "restore(1) behind load", () -> x.restore(1));
        Check.same("load again", x.load(), 8);
        Check.same("seals behind load again", x.about(2), 1);
        Check.write(x, "d01000-1999;w0000;w0700");
        Check.same("load without reigns", x.load(), 0);
        Check.same("colours of no reign", x.about(3), 2);
        Check.same("no reign for colour 0", x.dated(0, 3), 2);
        Check.same("setting 0 is new", x.set(0, 5), 10);
        Check.same("setting 1 is new", x.set(1, 5), 3);
    }

    private static void loadingWrongText() {
        CordSeals x = Sample.make();
        x.save(1);
        Check.badState(x, "load of no text", x::load);
        Check.write(x, "r11000;");
        Check.badState(x, "load of half a text", x::load);
        Check.write(x, "r11000;k");
        Check.badState(x, "load of a wrong text", x::load);
        Check.same("undo still remembers", x.undo(), 13);
        Check.same("slot 1 still holds", x.restore(1), 9);
    }

    private static void fullText() {
        CordSeals x = new CordSeals();
        StringBuilder text = new StringBuilder("d01000-1999");
        while (text.length() + 6 <= 119) {
            text.append(";w0.00");
        }
        text.append("0");
        Check.write(x, text.toString());
        Check.same("length of the long text", text.length(), 120);
        Check.same("errorPosition of the long text", x.errorPosition(), CordSeals.NONE);
        Check.same("load of the long text", x.load(), 1);
        Check.same("seals of the long text", x.about(2), 17);
    }
}
