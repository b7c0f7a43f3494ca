/** Promises 35 and 36: save, restore. */
public final class SlotsTest {
    public static void main(String[] args) {
        wrongSlots();
        savedStaysSaved();
        everythingIsSaved();
        saveIsNoAction();
        loadEmptiesSlots();
        Check.end();
    }

    private static void wrongSlots() {
        CordSeals x = Sample.make();
        int[] bad = {-1, 2, Integer.MAX_VALUE, Integer.MIN_VALUE};
        for (int slot : bad) {
            Check.noSuch(x, "save(" + slot + ")", () -> x.save(slot));
            Check.noSuch(x, "restore(" + slot + ")", () -> x.restore(slot));
        }
        Check.badState(x, "restore(0) of nothing", () -> x.restore(0));
        Check.badState(x, "restore(1) of nothing", () -> x.restore(1));
        x.save(1);
        Check.badState(x, "restore(0) of nothing still", () -> x.restore(0));
        Check.same("restore(1)", x.restore(1), 9);
    }

    private static void savedStaysSaved() {
        CordSeals x = new CordSeals();
        Check.same("save(0) of nothing", x.save(0), 0);
        x.die(0, 1000, 1999);
        x.seal(0, 0, CordSeals.NONE, 0, 0);
        Check.same("save(1)", x.save(1), 1);
        x.seal(0, 0, CordSeals.NONE, 0, 0);
        Check.same("restore(0)", x.restore(0), 0);
        Check.same("dies of slot 0", x.about(1), 0);
        Check.same("restore(1)", x.restore(1), 1);
        x.hang(0, 3);
        x.shelve(0, 3, 0);
        x.set(0, 99);
        Check.same("restore(1) again", x.restore(1), 1);
        Check.same("the slot was not changed", x.about(5), 0);
        Check.same("the slot was not changed either", x.about(7), 0);
        Check.same("nor its setting", x.set(0, 5), 10);
        Check.same("save(1) over it", x.save(1), 1);
        x.set(0, 6);
        x.restore(1);
        Check.same("the later state", x.set(0, 7), 5);
    }

    private static void everythingIsSaved() {
        CordSeals x = Sample.make();
        x.hang(0, 0);
        x.hang(8, 0);
        x.shelve(7, 1, 0);
        x.shelve(2, 1, 1);
        x.set(0, 12);
        x.set(1, 2);
        String before = Check.picture(x);
        x.save(0);
        x.reign(1300, 4);
        x.die(4, 1000, 1001);
        x.crack(1, 1200);
        x.show(2, 7);
        x.seal(3, 0, 0, 0, 0);
        x.cut(0);
        x.sort(1);
        x.take(2);
        x.set(0, 1);
        x.set(1, 99);
        Check.write(x, "r11000");
        String changed = Check.picture(x);
        Check.holds("everything is other now", !changed.equals(before));
        Check.same("restore(0)", x.restore(0), 9);
        Check.same("the text is kept", x.clearText(), 6);
        Check.same("everything is back", Check.picture(x), before);
        Check.same("setting 0 is back", x.set(0, 0), 12);
        Check.same("setting 1 is back", x.set(1, 0), 2);
    }

    private static void saveIsNoAction() {
        CordSeals x = new CordSeals();
        x.die(0, 1000, 1999);
        x.set(0, 1);
        x.save(0);
        Check.same("undo behind save", x.undo(), 1);
        x.set(0, 2);
        x.restore(0);
        Check.badState(x, "undo behind restore", x::undo);
        x.set(0, 3);
        Check.same("undo of what came behind restore", x.undo(), 0);
        Check.same("the restored setting", x.set(0, 4), 1);
        Check.badState(x, "a restore that throws", () -> x.restore(1));
        Check.same("keeps what is remembered", x.undo(), 0);
    }

    private static void loadEmptiesSlots() {
        CordSeals x = Sample.make();
        x.save(0);
        x.save(1);
        Check.write(x, "d01000-1999;w0.00");
        x.load();
        Check.badState(x, "restore(0) behind load", () -> x.restore(0));
        Check.badState(x, "restore(1) behind load", () -> x.restore(1));
        x.save(1);
        Check.badState(x, "restore(0) still", () -> x.restore(0));
        Check.same("restore(1)", x.restore(1), 1);
    }
}
