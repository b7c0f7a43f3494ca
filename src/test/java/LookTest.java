/** Promises 1 and 6 to 14: a new object, and what there is. */
public final class LookTest {
    private static final int NONE = CordSeals.NONE;

    public static void main(String[] args) {
        newObject();
        aboutSample();
        reigns();
        dies();
        seals();
        years();
        gaps();
        fakes();
        charters();
        shelves();
        wrongNumbers();
        Check.end();
    }

    private static void newObject() {
        CordSeals x = new CordSeals();
        for (int what = 0; what <= 8; what++) {
            Check.same("about(" + what + ") of a new object", x.about(what), 0);
        }
        for (int i = 0; i < 6; i++) {
            Check.same("seals of a charter", x.charter(i, 0), 0);
            Check.same("first year of a charter", x.charter(i, 1), NONE);
            Check.same("last year of a charter", x.charter(i, 2), NONE);
            Check.same("years of a charter", x.charter(i, 3), 0);
            Check.same("fakes of a charter", x.charter(i, 4), 0);
            Check.same("onShelf", x.onShelf(i, 0), NONE);
        }
        Check.same("errorPosition", x.errorPosition(), 0);
        Check.same("wax at first", x.set(0, 0), 10);
        Check.same("lead at first", x.set(1, 0), 3);
        CordSeals y = new CordSeals();
        Check.badState(y, "undo", y::undo);
        Check.badState(y, "restore(0)", () -> y.restore(0));
        Check.badState(y, "restore(1)", () -> y.restore(1));
        Check.same("NONE", NONE, -1);
    }

    private static void aboutSample() {
        CordSeals x = Sample.make();
        int[] due = {3, 3, 9, 4, 1, 0, 0, 0, 0};
        for (int what = 0; what <= 8; what++) {
            Check.same("about(" + what + ")", x.about(what), due[what]);
        }
        x.hang(0, 0);
        x.hang(8, 0);
        x.hang(3, 1);
        x.hang(2, 2);
        x.shelve(0, 0, 0);
        x.shelve(1, 0, 1);
        x.shelve(8, 1, 0);
        x.shelve(7, 1, 0);
        Check.same("fakes with two by their charter", x.about(3), 6);
        Check.same("casts", x.about(4), 1);
        Check.same("seals on charters", x.about(5), 4);
        Check.same("charters with a fake", x.about(6), 2);
        Check.same("seals on shelves", x.about(7), 4);
        Check.same("shelf 1 has a fake behind, shelf 0 ahead", x.about(8), 0);
        x.cut(8);
        Check.same("both shelves count genuine seals again", x.about(8), 2);
    }

    private static void reigns() {
        CordSeals x = Sample.make();
        Check.same("reign 0 begins", x.ofReign(0, 0), 1100);
        Check.same("reign 0 ends", x.ofReign(0, 1), 1149);
        Check.same("reign 0 colours", x.ofReign(0, 2), 0b0011);
        Check.same("reign 1 begins", x.ofReign(1, 0), 1150);
        Check.same("reign 1 ends", x.ofReign(1, 1), 1199);
        Check.same("reign 1 colours", x.ofReign(1, 2), 0b0110);
        Check.same("reign 2 begins", x.ofReign(2, 0), 1200);
        Check.same("reign 2 ends", x.ofReign(2, 1), 1999);
        Check.same("reign 2 colours", x.ofReign(2, 2), 0b1001);
        CordSeals y = new CordSeals();
        y.reign(1999, 255);
        Check.same("a reign of one year ends", y.ofReign(0, 1), 1999);
        Check.same("a reign of all colours", y.ofReign(0, 2), 255);
    }

    private static void dies() {
        CordSeals x = Sample.make();
        int[][] due = {{0, 1090, 1180, 1, 2, 0}, {1, 1140, 1260, 2, 6, 3}, {0, 1000, 1099, 0, 1, 1}};
        for (int d = 0; d < 3; d++) {
            for (int what = 0; what <= 5; what++) {
                Check.same("ofDie(" + d + ", " + what + ")", x.ofDie(d, what), due[d][what]);
            }
        }
        Check.same("crack 0 of die 0", x.crackYear(0, 0), 1120);
        Check.same("crack 0 of die 1", x.crackYear(1, 0), 1160);
        Check.same("crack 1 of die 1", x.crackYear(1, 1), 1150);
    }

    private static void seals() {
        CordSeals x = Sample.make();
        x.hang(2, 5);
        x.shelve(7, 3, 0);
        x.shelve(2, 3, 0);
        int[][] due = {{0, 0, 0, 5, 1, -1, -1, -1}, {0, 0, 1, 10, 0, -1, -1, -1}, {1, 1, -1, 3, 3, 5, 3, 0},
            {1, 1, 0, 4, 0, -1, -1, -1}, {1, 0, 7, 0, 0, -1, -1, -1}, {2, 0, 0, 0, 0, -1, -1, -1},
            {1, 0, -1, 0, 1, -1, -1, -1}, {1, 0, 0, 0, 3, -1, 3, 1}, {1, 0, 1, 0, 2, -1, -1, -1}};
        for (int s = 0; s < 9; s++) {
            for (int what = 0; what <= 7; what++) {
                Check.same("ofSeal(" + s + ", " + what + ")", x.ofSeal(s, what), due[s][what]);
            }
        }
    }

    private static void years() {
        CordSeals x = Sample.make();
        int[][] due = {{1120, 1149, 30, 0}, {1100, 1120, 21, 0}, {1160, 1260, 101, 0}, {1140, 1149, 10, 1},
            {-1, -1, 0, 2}, {-1, -1, 0, 3}, {-1, -1, 0, 3}, {1200, 1260, 61, 0}, {1150, 1160, 11, 0}};
        for (int s = 0; s < 9; s++) {
            for (int what = 0; what <= 3; what++) {
                Check.same("dated(" + s + ", " + what + ")", x.dated(s, what), due[s][what]);
            }
            for (int year = 1000; year <= 1999; year++) {
                boolean in = due[s][2] > 0 && year >= due[s][0] && year <= due[s][1];
                Check.same("isPossible(" + s + ", " + year + ")", x.isPossible(s, year) ? 1 : 0, in ? 1 : 0);
            }
        }
    }

    // Years of one colour in two reigns with another one between them, and no cord ahead of all reigns.
    private static void gaps() {
        CordSeals x = Sample.make();
        x.die(2, 1040, 1210);
        x.seal(3, 0, 0, 0, 0);
        x.seal(3, 0, NONE, 0, 0);
        Check.same("first year", x.dated(9, 0), 1100);
        Check.same("last year", x.dated(9, 1), 1210);
        Check.same("years with a gap", x.dated(9, 2), 61);
        Check.holds("1099", !x.isPossible(9, 1099));
        Check.holds("1149", x.isPossible(9, 1149));
        Check.holds("1150", !x.isPossible(9, 1150));
        Check.holds("1199", !x.isPossible(9, 1199));
        Check.holds("1200", x.isPossible(9, 1200));
        Check.holds("1210", x.isPossible(9, 1210));
        Check.holds("1211", !x.isPossible(9, 1211));
        Check.same("first year without a cord", x.dated(10, 0), 1040);
        Check.same("years without a cord", x.dated(10, 2), 171);
        Check.same("last year without a cord", x.dated(10, 1), 1210);
        x.seal(2, 0, NONE, 0, 0);
        Check.same("last year ahead of all reigns", x.dated(11, 1), 1099);
        Check.same("years ahead of all reigns", x.dated(11, 2), 100);
        CordSeals y = new CordSeals();
        y.die(0, 1000, 1999);
        y.seal(0, 0, NONE, 0, 0);
        y.seal(0, 0, 0, 0, 0);
        Check.same("years without reigns", y.dated(0, 2), 1000);
        Check.same("no cord without reigns", y.dated(0, 3), 0);
        Check.same("a cord without reigns", y.dated(1, 3), 2);
        y.reign(1000, 1);
        Check.same("years of a reign from 1000", y.dated(1, 2), 1000);
        y.crack(0, 1000);
        Check.same("not behind a crack in 1000", y.dated(0, 2), 1);
        y.show(0, 1);
        Check.same("not ahead of a crack in 1000", y.dated(0, 2), 1000);
        y.crack(0, 1999);
        y.show(0, 3);
        Check.same("not ahead of a crack in 1999", y.dated(0, 0), 1999);
    }

    private static void fakes() {
        CordSeals x = Sample.make();
        x.set(0, 4);
        Check.same("6 bubbles of wax more than 4 is a cast", x.dated(0, 3), 1);
        x.set(0, 5);
        Check.same("5 bubbles are not more than 5", x.dated(0, 3), 0);
        x.set(1, 2);
        Check.same("3 bubbles of lead are more than 2", x.dated(2, 3), 1);
        x.set(0, 0);
        Check.same("the setting of lead does not tell of wax", x.dated(8, 3), 0);
        CordSeals y = Sample.make();
        y.hang(0, 0);
        y.hang(1, 0);
        Check.same("one common year", y.charter(0, 3), 1);
        Check.same("no fake by the charter", y.dated(0, 3), 0);
        y.hang(8, 0);
        Check.same("fake by the charter", y.dated(0, 3), 4);
        Check.same("fake by the charter too", y.dated(8, 3), 4);
        y.hang(3, 0);
        y.hang(4, 0);
        y.hang(5, 0);
        Check.same("first a cast", y.dated(3, 3), 1);
        Check.same("first a wrong colour", y.dated(4, 3), 2);
        Check.same("first no year", y.dated(5, 3), 3);
        Check.same("its years are as before", y.dated(0, 2), 30);
        y.cut(8);
        Check.same("fakes do not narrow the charter", y.dated(0, 3), 0);
        y.set(0, 4);
        Check.same("fakes of die 0", y.ofDie(0, 5), 2);
        Check.same("casts", y.about(4), 3);
        CordSeals z = Sample.make();
        z.seal(1, 1, 7, 50, 0);
        Check.same("a cast ahead of a wrong colour", z.dated(9, 3), 1);
        z.seal(2, 1, 7, 0, 0);
        Check.same("a wrong colour ahead of no year", z.dated(10, 3), 2);
        z.hang(3, 0);
        Check.same("a charter with a cast alone", z.dated(3, 3), 1);
    }

    private static void charters() {
        CordSeals x = Sample.make();
        x.hang(2, 1);
        x.hang(7, 1);
        x.hang(4, 1);
        Check.same("seals of charter 1", x.charter(1, 0), 3);
        Check.same("first year of charter 1", x.charter(1, 1), 1200);
        Check.same("last year of charter 1", x.charter(1, 2), 1260);
        Check.same("years of charter 1", x.charter(1, 3), 61);
        Check.same("fakes of charter 1", x.charter(1, 4), 1);
        x.hang(3, 2);
        Check.same("seals of a charter of fakes", x.charter(2, 0), 1);
        Check.same("first year of a charter of fakes", x.charter(2, 1), NONE);
        Check.same("last year of a charter of fakes", x.charter(2, 2), NONE);
        Check.same("years of a charter of fakes", x.charter(2, 3), 0);
        Check.same("fakes of a charter of fakes", x.charter(2, 4), 1);
        x.hang(0, 5);
        x.hang(8, 5);
        Check.same("first year of a charter without common years", x.charter(5, 1), NONE);
        Check.same("years of a charter without common years", x.charter(5, 3), 0);
        Check.same("fakes of a charter without common years", x.charter(5, 4), 2);
    }

    private static void shelves() {
        CordSeals x = Sample.make();
        x.shelve(2, 4, 0);
        x.shelve(7, 4, 0);
        Check.same("place 0", x.onShelf(4, 0), 7);
        Check.same("place 1", x.onShelf(4, 1), 2);
        Check.same("place 2", x.onShelf(4, 2), NONE);
        Check.same("place 6", x.onShelf(4, 6), NONE);
        Check.same("place max", x.onShelf(4, Integer.MAX_VALUE), NONE);
        Check.same("1160 behind 1200", x.about(8), 1);
        x.shelve(2, 4, 0);
        Check.same("1200 behind 1160", x.about(8), 0);
        x.shelve(6, 4, 0);
        x.shelve(3, 4, 3);
        Check.same("fakes are nowhere wrong", x.about(8), 0);
        x.shelve(8, 4, 4);
        Check.same("a fake between does not help", x.about(8), 1);
        CordSeals y = Sample.make();
        y.seal(1, 0, NONE, 0, 3);
        y.shelve(2, 0, 0);
        y.shelve(9, 0, 1);
        Check.same("the same first year twice", y.about(8), 0);
    }

    private static void wrongNumbers() {
        CordSeals x = Sample.make();
        int[] low = {-1, Integer.MIN_VALUE};
        for (int bad : low) {
            Check.badArgument(x, "about", () -> x.about(bad));
            Check.noSuch(x, "ofReign", () -> x.ofReign(bad, 3));
            Check.badArgument(x, "ofReign what", () -> x.ofReign(0, bad));
            Check.noSuch(x, "ofDie", () -> x.ofDie(bad, 6));
            Check.badArgument(x, "ofDie what", () -> x.ofDie(0, bad));
            Check.noSuch(x, "crackYear die", () -> x.crackYear(bad, 0));
            Check.noSuch(x, "crackYear crack", () -> x.crackYear(0, bad));
            Check.noSuch(x, "ofSeal", () -> x.ofSeal(bad, 8));
            Check.badArgument(x, "ofSeal what", () -> x.ofSeal(0, bad));
            Check.noSuch(x, "dated", () -> x.dated(bad, 4));
            Check.badArgument(x, "dated what", () -> x.dated(0, bad));
            Check.noSuch(x, "isPossible", () -> x.isPossible(bad, 2000) ? 1 : 0);
            Check.noSuch(x, "charter", () -> x.charter(bad, 5));
            Check.badArgument(x, "charter what", () -> x.charter(0, bad));
            Check.noSuch(x, "onShelf", () -> x.onShelf(bad, -1));
            Check.badArgument(x, "onShelf place", () -> x.onShelf(0, bad));
        }
        Check.badArgument(x, "about(9)", () -> x.about(9));
        Check.noSuch(x, "ofReign(3, 0)", () -> x.ofReign(3, 0));
        Check.badArgument(x, "ofReign(2, 3)", () -> x.ofReign(2, 3));
        Check.noSuch(x, "ofDie(3, 0)", () -> x.ofDie(3, 0));
        Check.badArgument(x, "ofDie(2, 6)", () -> x.ofDie(2, 6));
        Check.noSuch(x, "crackYear(3, 0)", () -> x.crackYear(3, 0));
        Check.noSuch(x, "crackYear(0, 1)", () -> x.crackYear(0, 1));
        Check.noSuch(x, "crackYear(1, 4)", () -> x.crackYear(1, 4));
        Check.noSuch(x, "ofSeal(9, 0)", () -> x.ofSeal(9, 0));
        Check.noSuch(x, "ofSeal(24, 0)", () -> x.ofSeal(24, 0));
        Check.badArgument(x, "ofSeal(8, 8)", () -> x.ofSeal(8, 8));
        Check.noSuch(x, "dated(9, 0)", () -> x.dated(9, 0));
        Check.badArgument(x, "dated(8, 4)", () -> x.dated(8, 4));
        Check.noSuch(x, "isPossible(9, 1000)", () -> x.isPossible(9, 1000) ? 1 : 0);
        Check.badArgument(x, "isPossible(0, 999)", () -> x.isPossible(0, 999) ? 1 : 0);
        Check.badArgument(x, "isPossible(0, 2000)", () -> x.isPossible(0, 2000) ? 1 : 0);
        Check.noSuch(x, "charter(6, 0)", () -> x.charter(6, 0));
        Check.badArgument(x, "charter(5, 5)", () -> x.charter(5, 5));
        Check.noSuch(x, "onShelf(6, 0)", () -> x.onShelf(6, 0));
        Check.noSuch(x, "onShelf(max, -1)", () -> x.onShelf(Integer.MAX_VALUE, -1));
    }
}
