/** Promises 15 to 26: the actions and undo. */
public final class ActionsTest {
    private static final int NONE = CordSeals.NONE;
    private static final int MAX = Integer.MAX_VALUE;
    private static final int MIN = Integer.MIN_VALUE;

    public static void main(String[] args) {
        reigns();
        dies();
        cracks();
        seals();
        showing();
        hanging();
        cutting();
        shelving();
        fullShelf();
        taking();
        sorting();
        settings();
        undoing();
        undoLimit();
        undoAndGoOn();
        undoOfEach();
        failedActionsAreNotRemembered();
        Check.end();
    }

    private static void reigns() {
        CordSeals x = new CordSeals();
        Check.badArgument(x, "reign(999, 1)", () -> x.reign(999, 1));
        Check.badArgument(x, "reign(2000, 1)", () -> x.reign(2000, 1));
        Check.badArgument(x, "reign(1000, 0)", () -> x.reign(1000, 0));
        Check.badArgument(x, "reign(1000, 256)", () -> x.reign(1000, 256));
        Check.badArgument(x, "reign(1000, -1)", () -> x.reign(1000, -1));
        Check.badArgument(x, "reign(max, min)", () -> x.reign(MAX, MIN));
        Check.same("reign(1000, 1)", x.reign(1000, 1), 0);
        Check.badState(x, "reign(1000, 1) again", () -> x.reign(1000, 1));
        for (int r = 1; r < 10; r++) {
            Check.same("reign " + r, x.reign(1000 + r, 255), r);
        }
        Check.same("reign 8 is one year", x.ofReign(8, 1), 1008);
        Check.badState(x, "an eleventh reign", () -> x.reign(1999, 1));
        Check.badArgument(x, "a wrong eleventh reign", () -> x.reign(2000, 1));
        CordSeals y = new CordSeals();
        Check.same("reign(1999, 255)", y.reign(1999, 255), 0);
        Check.badState(y, "reign(1998, 255)", () -> y.reign(1998, 255));
        Check.badArgument(y, "reign(1998, 256)", () -> y.reign(1998, 256));
    }

    private static void dies() {
        CordSeals x = new CordSeals();
        Check.badArgument(x, "die(-1, 1000, 1999)", () -> x.die(-1, 1000, 1999));
        Check.badArgument(x, "die(6, 1000, 1999)", () -> x.die(6, 1000, 1999));
        Check.badArgument(x, "die(0, 999, 1999)", () -> x.die(0, 999, 1999));
        Check.badArgument(x, "die(0, 2000, 2000)", () -> x.die(0, 2000, 2000));
        Check.badArgument(x, "die(0, 1000, 2000)", () -> x.die(0, 1000, 2000));
        Check.badArgument(x, "die(0, 1500, 1499)", () -> x.die(0, 1500, 1499));
        Check.badArgument(x, "die(0, 1500, min)", () -> x.die(0, 1500, MIN));
        Check.same("die(0, 1500, 1500)", x.die(0, 1500, 1500), 0);
        for (int d = 1; d < 10; d++) {
            Check.same("die " + d, x.die(5, 1000, 1999), d);
        }
        Check.badState(x, "an eleventh die", () -> x.die(0, 1000, 1999));
        Check.badArgument(x, "a wrong eleventh die", () -> x.die(6, 1000, 1999));
        x.crack(9, 1500);
        x.undo();
        x.undo();
        Check.same("a new die has no cracks", x.ofDie(x.die(0, 1000, 1001), 3), 0);
    }

    private static void cracks() {
        CordSeals x = new CordSeals();
        Check.noSuch(x, "crack without dies", () -> x.crack(0, 999));
        x.die(0, 1400, 1600);
        Check.noSuch(x, "crack(-1, 1500)", () -> x.crack(-1, 1500));
        Check.noSuch(x, "crack(1, 1500)", () -> x.crack(1, 1500));
        Check.noSuch(x, "crack(max, 2000)", () -> x.crack(MAX, 2000));
        Check.badArgument(x, "crack(0, 999)", () -> x.crack(0, 999));
        Check.badArgument(x, "crack(0, 2000)", () -> x.crack(0, 2000));
        Check.same("a crack outside the years of the die", x.crack(0, 1999), 0);
        Check.badState(x, "a crack of the same year", () -> x.crack(0, 1999));
        Check.same("crack 1", x.crack(0, 1000), 1);
        Check.same("crack 2", x.crack(0, 1500), 2);
        x.seal(0, 0, NONE, 0, 7);
        Check.same("crack 3", x.crack(0, 1550), 3);
        Check.badState(x, "a fifth crack", () -> x.crack(0, 1600));
        Check.badArgument(x, "a fifth crack in no year", () -> x.crack(0, 2000));
        Check.same("seals do not show a new crack", x.ofSeal(0, 4), 7);
        Check.same("year of crack 3", x.crackYear(0, 3), 1550);
        x.die(1, 1000, 1999);
        Check.same("another die in the same year", x.crack(1, 1500), 0);
    }

    private static void seals() {
        CordSeals x = Sample.make();
        Check.noSuch(x, "seal of die 3", () -> x.seal(3, 2, 8, 100, 16));
        Check.noSuch(x, "seal of die -1", () -> x.seal(-1, 0, 0, 0, 0));
        Check.badArgument(x, "material -1", () -> x.seal(0, -1, 0, 0, 0));
        Check.badArgument(x, "material 2", () -> x.seal(0, 2, 0, 0, 0));
        Check.badArgument(x, "colour -2", () -> x.seal(0, 0, -2, 0, 0));
        Check.badArgument(x, "colour 8", () -> x.seal(0, 0, 8, 0, 0));
        Check.badArgument(x, "bubbles -1", () -> x.seal(0, 0, 0, -1, 0));
        Check.badArgument(x, "bubbles 100", () -> x.seal(0, 0, 0, 100, 0));
        Check.badArgument(x, "cracks -1", () -> x.seal(0, 0, 0, 0, -1));
        Check.badArgument(x, "cracks 16", () -> x.seal(0, 0, 0, 0, 16));
        Check.badArgument(x, "crack 1 of a die with one", () -> x.seal(0, 0, 0, 0, 2));
        Check.badArgument(x, "crack 0 of a die without", () -> x.seal(2, 0, 0, 0, 1));
        Check.badArgument(x, "cracks min", () -> x.seal(1, 0, 0, 0, MIN));
        Check.badArgument(x, "colour max", () -> x.seal(1, 0, MAX, 0, 0));
        Check.same("seal 9", x.seal(1, 1, 7, 99, 3), 9);
        for (int s = 10; s < 24; s++) {
            Check.same("seal " + s, x.seal(2, 0, NONE, 0, 0), s);
        }
        Check.same("a new seal hangs nowhere", x.ofSeal(23, 5), NONE);
        Check.same("a new seal is on no shelf", x.ofSeal(23, 6), NONE);
        Check.badState(x, "a seal more", () -> x.seal(0, 0, 0, 0, 0));
        Check.badArgument(x, "a wrong seal more", () -> x.seal(0, 0, 0, 0, 2));
        Check.noSuch(x, "a seal more of no die", () -> x.seal(10, 0, 0, 0, 0));
        CordSeals y = new CordSeals();
        y.die(0, 1000, 1999);
        for (int year = 1000; year < 1004; year++) {
            y.crack(0, year);
        }
        Check.same("all four cracks", y.seal(0, 0, NONE, 0, 15), 0);
        Check.badArgument(y, "a fifth crack", () -> y.seal(0, 0, NONE, 0, 16));
        Check.same("first year with all four", y.dated(0, 0), 1003);
    }

    private static void showing() {
        CordSeals x = Sample.make();
        Check.noSuch(x, "show(9, 0)", () -> x.show(9, 0));
        Check.noSuch(x, "show(-1, 16)", () -> x.show(-1, 16));
        Check.badArgument(x, "show(0, -1)", () -> x.show(0, -1));
        Check.badArgument(x, "show(0, 16)", () -> x.show(0, 16));
        Check.badArgument(x, "show(0, 2)", () -> x.show(0, 2));
        Check.badArgument(x, "show(2, 4)", () -> x.show(2, 4));
        Check.badArgument(x, "show(5, 1)", () -> x.show(5, 1));
        Check.same("show(2, 2)", x.show(2, 2), 3);
        Check.same("show(2, 0)", x.show(2, 0), 2);
        Check.same("show(2, 0) again", x.show(2, 0), 0);
        Check.same("years behind it", x.dated(2, 1), 1150);
        Check.same("show(2, 3)", x.show(2, 3), 0);
        Check.same("years then", x.dated(2, 0), 1160);
    }

    private static void hanging() {
        CordSeals x = Sample.make();
        Check.noSuch(x, "hang(9, 0)", () -> x.hang(9, 0));
        Check.noSuch(x, "hang(-1, 0)", () -> x.hang(-1, 0));
        Check.noSuch(x, "hang(0, 6)", () -> x.hang(0, 6));
        Check.noSuch(x, "hang(0, -1)", () -> x.hang(0, -1));
        Check.noSuch(x, "hang(min, max)", () -> x.hang(MIN, MAX));
        Check.same("hang(0, 0)", x.hang(0, 0), 1);
        Check.same("hang(1, 0)", x.hang(1, 0), 2);
        Check.same("hang(1, 0) again", x.hang(1, 0), 2);
        Check.same("hang(1, 5)", x.hang(1, 5), 1);
        Check.same("charter 0 without it", x.charter(0, 0), 1);
        Check.same("its charter", x.ofSeal(1, 5), 5);
    }

    private static void cutting() {
        CordSeals x = Sample.make();
        x.hang(4, 3);
        Check.noSuch(x, "cut(9)", () -> x.cut(9));
        Check.noSuch(x, "cut(-1)", () -> x.cut(-1));
        Check.badState(x, "cut(0)", () -> x.cut(0));
        Check.same("cut(4)", x.cut(4), 3);
        Check.same("its charter", x.ofSeal(4, 5), NONE);
        Check.badState(x, "cut(4) again", () -> x.cut(4));
        x.hang(0, 0);
        Check.same("cut from charter 0", x.cut(0), 0);
    }

    private static void order(CordSeals x, int h, int... seals) {
        for (int k = 0; k < 6; k++) {
            Check.same("place " + k + " of shelf " + h, x.onShelf(h, k), k < seals.length ? seals[k] : NONE);
        }
        for (int k = 0; k < seals.length; k++) {
            Check.same("place of seal " + seals[k], x.ofSeal(seals[k], 7), k);
            Check.same("shelf of seal " + seals[k], x.ofSeal(seals[k], 6), h);
        }
    }

    private static void shelving() {
        CordSeals x = Sample.make();
        Check.noSuch(x, "shelve(9, 0, 0)", () -> x.shelve(9, 0, 0));
        Check.noSuch(x, "shelve(-1, 0, -1)", () -> x.shelve(-1, 0, -1));
        Check.noSuch(x, "shelve(0, 6, 7)", () -> x.shelve(0, 6, 7));
        Check.noSuch(x, "shelve(0, -1, 0)", () -> x.shelve(0, -1, 0));
        Check.badArgument(x, "shelve(0, 0, 1)", () -> x.shelve(0, 0, 1));
        Check.badArgument(x, "shelve(0, 0, -1)", () -> x.shelve(0, 0, -1));
        Check.same("shelve(2, 0, 0)", x.shelve(2, 0, 0), 1);
        Check.same("shelve(3, 0, 0)", x.shelve(3, 0, 0), 2);
        Check.same("shelve(4, 0, 1)", x.shelve(4, 0, 1), 3);
        Check.same("shelve(6, 0, 3)", x.shelve(6, 0, 3), 4);
        order(x, 0, 3, 4, 2, 6);
        Check.badState(x, "a seal of another house", () -> x.shelve(0, 0, 0));
        Check.badState(x, "a seal of another house, last", () -> x.shelve(0, 0, 4));
        Check.badArgument(x, "a seal of another house, too far", () -> x.shelve(0, 0, 5));
        Check.badArgument(x, "its own place does not count", () -> x.shelve(3, 0, 4));
        Check.same("to the end of its shelf", x.shelve(3, 0, 3), 4);
        order(x, 0, 4, 2, 6, 3);
        Check.same("to the beginning of its shelf", x.shelve(6, 0, 0), 4);
        order(x, 0, 6, 4, 2, 3);
        Check.same("to the same place", x.shelve(4, 0, 1), 4);
        order(x, 0, 6, 4, 2, 3);
        Check.same("to another shelf", x.shelve(4, 5, 0), 1);
        order(x, 0, 6, 2, 3);
        order(x, 5, 4);
        Check.badState(x, "another house there", () -> x.shelve(5, 5, 1));
        Check.same("a shelf of house 0", x.shelve(0, 1, 0), 1);
        Check.same("a second die of house 0", x.shelve(5, 1, 1), 2);
        Check.same("back", x.shelve(4, 0, 3), 4);
        Check.same("an empty shelf takes any house", x.shelve(5, 5, 0), 1);
    }

    private static void fullShelf() {
        CordSeals x = Sample.make();
        int[] house1 = {2, 3, 4, 6, 7, 8};
        for (int k = 0; k < 6; k++) {
            Check.same("seals of the shelf", x.shelve(house1[k], 2, k), k + 1);
        }
        x.seal(1, 0, NONE, 0, 0);
        Check.badState(x, "a seventh, ahead", () -> x.shelve(9, 2, 0));
        Check.badState(x, "a seventh, behind", () -> x.shelve(9, 2, 6));
        Check.badArgument(x, "a seventh, too far", () -> x.shelve(9, 2, 7));
        Check.badArgument(x, "one of the six, too far", () -> x.shelve(2, 2, 6));
        Check.same("one of the six", x.shelve(2, 2, 5), 6);
        order(x, 2, 3, 4, 6, 7, 8, 2);
        Check.same("seals on shelves", x.about(7), 6);
    }

    private static void taking() {
        CordSeals x = Sample.make();
        x.shelve(2, 5, 0);
        x.shelve(3, 5, 1);
        x.shelve(4, 5, 2);
        Check.noSuch(x, "take(9)", () -> x.take(9));
        Check.noSuch(x, "take(-1)", () -> x.take(-1));
        Check.badState(x, "take(0)", () -> x.take(0));
        Check.same("take(3)", x.take(3), 5);
        order(x, 5, 2, 4);
        Check.badState(x, "take(3) again", () -> x.take(3));
        Check.same("take(2)", x.take(2), 5);
        order(x, 5, 4);
        Check.same("take(4)", x.take(4), 5);
        order(x, 5);
    }

    private static void sorting() {
        CordSeals x = Sample.make();
        Check.noSuch(x, "sort(6)", () -> x.sort(6));
        Check.noSuch(x, "sort(-1)", () -> x.sort(-1));
        Check.same("sort of an empty shelf", x.sort(0), 0);
        int[] seals = {6, 7, 3, 2, 4, 8};
        for (int k = 0; k < 6; k++) {
            x.shelve(seals[k], 0, k);
        }
        Check.same("bad before", x.about(8), 1);
        Check.same("sort", x.sort(0), 6);
        order(x, 0, 8, 2, 7, 6, 3, 4);
        Check.same("good behind", x.about(8), 0);
        Check.same("sort again", x.sort(0), 0);
        CordSeals z = new CordSeals();
        z.die(0, 1999, 1999);
        z.seal(0, 1, NONE, 4, 0);
        z.seal(0, 1, NONE, 3, 0);
        z.shelve(0, 5, 0);
        z.shelve(1, 5, 1);
        Check.same("a fake goes behind 1999", z.sort(5), 2);
        order(z, 5, 1, 0);
        CordSeals y = Sample.make();
        y.seal(1, 0, NONE, 0, 3);
        y.seal(1, 0, NONE, 1, 3);
        int[] equal = {10, 7, 2, 9};
        for (int k = 0; k < 4; k++) {
            y.shelve(equal[k], 3, k);
        }
        Check.same("sort with equal ones", y.sort(3), 3);
        order(y, 3, 10, 2, 9, 7);
        y.hang(10, 0);
        y.hang(8, 0);
        Check.same("1150 to 1160 and 1160 have a common year", y.dated(10, 3), 0);
        y.show(8, 0);
        Check.same("now it is a fake by its charter", y.dated(10, 3), 4);
        Check.same("sort puts it behind", y.sort(3), 4);
        order(y, 3, 2, 9, 7, 10);
    }

    private static void settings() {
        CordSeals x = Sample.make();
        Check.badArgument(x, "set(-1, 0)", () -> x.set(-1, 0));
        Check.badArgument(x, "set(2, 0)", () -> x.set(2, 0));
        Check.badArgument(x, "set(0, -1)", () -> x.set(0, -1));
        Check.badArgument(x, "set(1, 100)", () -> x.set(1, 100));
        Check.same("set(0, 99)", x.set(0, 99), 10);
        Check.same("set(1, 99)", x.set(1, 99), 3);
        Check.same("no casts", x.about(4), 0);
        Check.same("set(0, 0)", x.set(0, 0), 99);
        Check.same("set(1, 0)", x.set(1, 0), 99);
        Check.same("casts", x.about(4), 4);
    }

    private static void undoing() {
        CordSeals x = new CordSeals();
        Check.badState(x, "undo of nothing", x::undo);
        x.die(0, 1000, 1999);
        x.seal(0, 0, NONE, 0, 0);
        x.sort(0);
        x.set(0, 10);
        Check.same("undo of a set that changed nothing", x.undo(), 3);
        Check.same("undo of a sort that changed nothing", x.undo(), 2);
        Check.same("seals still", x.about(2), 1);
        Check.same("undo of a seal", x.undo(), 1);
        Check.same("seals then", x.about(2), 0);
        Check.same("undo of a die", x.undo(), 0);
        Check.same("dies then", x.about(1), 0);
        Check.badState(x, "undo once more", x::undo);
        x.die(1, 1000, 1999);
        Check.same("undo behind undo", x.undo(), 0);
        Check.write(x, "k01000");
        x.die(1, 1000, 1999);
        x.save(0);
        x.undo();
        Check.same("undo keeps the text", x.clearText(), 6);
        x.restore(0);
        Check.same("undo keeps the slot", x.about(1), 1);
    }

    private static void undoLimit() {
        CordSeals x = new CordSeals();
        for (int v = 1; v <= 40; v++) {
            x.set(0, v);
        }
        for (int left = 13; left >= 7; left--) {
            Check.same("undo", x.undo(), left);
        }
        Check.same("setting then", x.set(1, 8), 3);
        Check.same("setting 0 then", x.set(0, 50), 33);
        for (int left = 8; left >= 0; left--) {
            Check.same("undo again", x.undo(), left);
        }
        Check.badState(x, "undo of what is forgotten", x::undo);
        Check.same("setting at last", x.set(0, 0), 26);
    }

    private static void undoAndGoOn() {
        CordSeals x = new CordSeals();
        for (int v = 1; v <= 3; v++) {
            x.set(0, v);
        }
        x.undo();
        x.undo();
        for (int v = 11; v <= 15; v++) {
            Check.same("set behind undo", x.set(0, v), v == 11 ? 1 : v - 1);
        }
        for (int v = 14; v >= 11; v--) {
            Check.same("undo then", x.undo(), v - 9);
            Check.same("setting then", x.set(0, 99), v);
            Check.same("undo of the look at it", x.undo(), v - 9);
        }
    }

    // Every action, one behind the other, is taken back to just what was there.
    private static void undoOfEach() {
        CordSeals x = Sample.make();
        x.hang(1, 1);
        x.shelve(1, 1, 0);
        x.shelve(0, 1, 0);
        Runnable[] actions = {() -> x.reign(1300, 8), () -> x.die(0, 1000, 1001), () -> x.crack(0, 1121),
            () -> x.seal(0, 0, 0, 0, 1), () -> x.show(0, 0), () -> x.hang(0, 2), () -> x.hang(1, 2),
            () -> x.cut(1), () -> x.shelve(1, 2, 0), () -> x.shelve(5, 1, 0), () -> x.take(0), () -> x.sort(1),
            () -> x.set(0, 2), () -> x.set(1, 99)};
        String[] before = new String[actions.length];
        for (int i = 0; i < actions.length; i++) {
            before[i] = Check.picture(x);
            actions[i].run();
        }
        for (int i = actions.length - 1; i >= 0; i--) {
            Check.same("undo of action " + i, x.undo(), i);
            Check.same("state ahead of action " + i, Check.picture(x), before[i]);
        }
        Check.badState(x, "undo of the fifteenth", x::undo);
    }

    private static void failedActionsAreNotRemembered() {
        CordSeals x = new CordSeals();
        x.die(0, 1000, 1999);
        x.seal(0, 0, NONE, 0, 0);
        for (int i = 0; i < 20; i++) {
            Check.badState(x, "cut(0)", () -> x.cut(0));
            Check.noSuch(x, "hang(0, 6)", () -> x.hang(0, 6));
            Check.badArgument(x, "show(0, 1)", () -> x.show(0, 1));
            Check.noSuch(x, "sort(6)", () -> x.sort(6));
        }
        Check.same("undo behind them", x.undo(), 1);
        Check.same("seals then", x.about(2), 0);
    }
}
