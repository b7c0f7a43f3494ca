/** Promises 27 to 32: what would be. */
public final class WouldBeTest {
    private static final int NONE = CordSeals.NONE;

    public static void main(String[] args) {
        older();
        decides();
        ifCracked();
        ifHung();
        inYear();
        leastBubbles();
        nothingChanges();
        Check.end();
    }

    private static void older() {
        CordSeals x = Sample.make();
        Check.same("1100..1120 and 1160..1260", x.older(1, 2), 1);
        Check.same("the other way round", x.older(2, 1), 1);
        Check.same("1100..1120 and 1120..1149", x.older(1, 0), NONE);
        Check.same("1120..1149 and 1150..1160", x.older(0, 8), 0);
        Check.same("1150..1160 and 1160..1260", x.older(8, 2), NONE);
        Check.same("a seal and itself", x.older(0, 0), NONE);
        Check.same("a cast has years", x.older(3, 8), 3);
        Check.same("no year", x.older(5, 0), NONE);
        Check.same("no year the other way round", x.older(0, 5), NONE);
        Check.same("no years at all", x.older(5, 6), NONE);
        x.hang(0, 0);
        x.hang(8, 0);
        Check.same("fakes by their charter have years", x.older(8, 0), 0);
        Check.noSuch(x, "older(9, 0)", () -> x.older(9, 0));
        Check.noSuch(x, "older(0, 9)", () -> x.older(0, 9));
        Check.noSuch(x, "older(-1, 0)", () -> x.older(-1, 0));
        Check.noSuch(x, "older(0, max)", () -> x.older(0, Integer.MAX_VALUE));
    }

    private static void decides() {
        CordSeals x = Sample.make();
        Check.same("an empty charter", x.decides(0), NONE);
        x.hang(3, 0);
        x.hang(4, 0);
        Check.same("a charter of fakes by 1 and 2", x.decides(0), NONE);
        x.hang(8, 0);
        Check.same("the only genuine one", x.decides(0), 8);
        x.hang(0, 1);
        x.hang(1, 1);
        Check.same("without 1 there are 30, without 0 there are 21", x.decides(1), 1);
        x.hang(7, 2);
        x.hang(2, 2);
        Check.same("without 7 there are 101, without 2 there are 61", x.decides(2), 7);
        x.hang(8, 2);
        Check.same("fakes by 4 count: without 8 there are 61, else 1 or none", x.decides(2), 8);
        CordSeals y = new CordSeals();
        y.die(0, 1000, 1099);
        for (int s = 0; s < 3; s++) {
            y.seal(0, 0, NONE, 0, 0);
            y.hang(s, 4);
        }
        Check.same("of several the lowest", y.decides(4), 0);
        y.die(0, 1500, 1599);
        y.seal(1, 0, NONE, 0, 0);
        y.hang(3, 4);
        Check.same("the one that does not fit", y.decides(4), 3);
        y.seal(1, 0, NONE, 0, 0);
        y.hang(4, 4);
        Check.same("none alone is enough: the lowest with 0", y.decides(4), 0);
        Check.noSuch(y, "decides(6)", () -> y.decides(6));
        Check.noSuch(y, "decides(-1)", () -> y.decides(-1));
    }

    private static void ifCracked() {
        CordSeals x = Sample.make();
        Check.same("seal 0 would have no year", x.ifCracked(0, 1110), 1);
        Check.same("both would have none", x.ifCracked(0, 1099), 2);
        Check.same("none would change", x.ifCracked(0, 1149), 0);
        Check.same("a crack behind all years", x.ifCracked(2, 1999), 0);
        CordSeals y = new CordSeals();
        y.die(0, 1000, 1999);
        y.die(0, 1500, 1999);
        y.crack(0, 1400);
        y.seal(0, 0, NONE, 0, 0);
        y.seal(1, 0, NONE, 0, 0);
        y.hang(0, 0);
        y.hang(1, 0);
        Check.same("both are fakes by 4", y.about(3), 2);
        Check.same("a crack may make one genuine", y.ifCracked(1, 1450), -1);
        Check.noSuch(x, "ifCracked(3, 999)", () -> x.ifCracked(3, 999));
        Check.noSuch(x, "ifCracked(-1, 1000)", () -> x.ifCracked(-1, 1000));
        Check.badArgument(x, "ifCracked(0, 999)", () -> x.ifCracked(0, 999));
        Check.badArgument(x, "ifCracked(0, 2000)", () -> x.ifCracked(0, 2000));
        Check.badState(x, "ifCracked(0, 1120)", () -> x.ifCracked(0, 1120));
        x.crack(1, 1001);
        x.crack(1, 1002);
        Check.badState(x, "ifCracked(1, 1003)", () -> x.ifCracked(1, 1003));
        Check.badArgument(x, "ifCracked(1, 2000)", () -> x.ifCracked(1, 2000));
    }

    private static void ifHung() {
        CordSeals x = Sample.make();
        Check.same("alone", x.ifHung(0, 3), 30);
        x.hang(0, 3);
        Check.same("with 1120..1149", x.ifHung(1, 3), 1);
        Check.same("with 1120..1149, no common year", x.ifHung(8, 3), 0);
        Check.same("a fake does not narrow it", x.ifHung(3, 3), 30);
        Check.same("a fake alone", x.ifHung(3, 4), 0);
        Check.same("where it hangs", x.ifHung(0, 3), 30);
        x.hang(1, 3);
        Check.same("from another charter", x.ifHung(1, 0), 21);
        Check.noSuch(x, "ifHung(9, 0)", () -> x.ifHung(9, 0));
        Check.noSuch(x, "ifHung(0, 6)", () -> x.ifHung(0, 6));
        Check.noSuch(x, "ifHung(-1, -1)", () -> x.ifHung(-1, -1));
    }

    private static void inYear() {
        CordSeals x = Sample.make();
        Check.same("1099", x.inYear(1099), 0);
        Check.same("1100", x.inYear(1100), 1);
        Check.same("1120", x.inYear(1120), 2);
        Check.same("1145 without the cast", x.inYear(1145), 1);
        Check.same("1160", x.inYear(1160), 2);
        Check.same("1261", x.inYear(1261), 0);
        x.hang(0, 0);
        x.hang(8, 0);
        Check.same("1120 without a fake by 4", x.inYear(1120), 1);
        x.seal(0, 0, NONE, 0, 0);
        Check.same("1120 with one more", x.inYear(1120), 2);
        x.undo();
        Check.same("1120 without it again", x.inYear(1120), 1);
        Check.badArgument(x, "inYear(999)", () -> x.inYear(999));
        Check.badArgument(x, "inYear(2000)", () -> x.inYear(2000));
        Check.same("inYear(1000)", x.inYear(1000), 0);
        Check.same("inYear(1999)", x.inYear(1999), 0);
    }

    private static void leastBubbles() {
        CordSeals x = Sample.make();
        Check.same("four are fakes at ten", x.leastBubbles(0, 4), 10);
        Check.same("five are at five", x.leastBubbles(0, 5), 5);
        Check.same("six are at none", x.leastBubbles(0, 6), 0);
        Check.same("three are never", x.leastBubbles(0, 3), NONE);
        Check.same("three are at four of lead", x.leastBubbles(1, 3), 4);
        Check.same("four are at three of lead", x.leastBubbles(1, 4), 3);
        Check.same("any number", x.leastBubbles(1, Integer.MAX_VALUE), 0);
        CordSeals y = new CordSeals();
        Check.same("no seals", y.leastBubbles(0, 0), 0);
        y.die(0, 1000, 1099);
        y.die(0, 1500, 1599);
        y.seal(0, 0, NONE, 20, 0);
        y.seal(1, 0, NONE, 40, 0);
        y.seal(1, 0, NONE, 99, 0);
        y.hang(0, 0);
        y.hang(1, 0);
        Check.same("at 40 both are fakes by their charter", y.leastBubbles(0, 2), 20);
        Check.same("more bubbles do not help", y.leastBubbles(0, 1), NONE);
        Check.same("99 bubbles", y.leastBubbles(0, 3), 0);
        y.cut(0);
        Check.same("all are genuine at 99", y.leastBubbles(0, 0), 99);
        Check.badArgument(y, "leastBubbles(-1, 0)", () -> y.leastBubbles(-1, 0));
        Check.badArgument(y, "leastBubbles(2, 0)", () -> y.leastBubbles(2, 0));
        Check.badArgument(y, "leastBubbles(0, -1)", () -> y.leastBubbles(0, -1));
    }

    private static void nothingChanges() {
        CordSeals x = Sample.make();
        x.hang(0, 0);
        x.shelve(7, 0, 0);
        x.shelve(2, 0, 1);
        String before = Check.picture(x);
        x.older(0, 1);
        x.decides(0);
        x.ifCracked(0, 1101);
        x.ifHung(1, 0);
        x.inYear(1120);
        x.leastBubbles(0, 0);
        x.runScript(3, 101999501001700500L);
        x.simulate(5, 60);
        Check.same("what would be", Check.picture(x), before);
        Check.same("and nothing of it is remembered", x.undo(), 13);
        Check.same("undo of the last action", x.onShelf(0, 1), NONE);
    }
}
