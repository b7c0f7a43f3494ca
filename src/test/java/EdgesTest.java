/** What is empty, what is full, and what lies just on an edge, promise by promise. */
public final class EdgesTest {
    private static final int NONE = CordSeals.NONE;

    public static void main(String[] args) {
        loadFull();
        loadUpToTheHighestSeal();
        loadForgetsRows();
        fullNumbers();
        fullCounts();
        colours();
        firstAndLastYear();
        crackYears();
        bubbles();
        fullCharter();
        shelfOrder();
        sortedShelves();
        moving();
        remembered();
        undoAndActAgain();
        undoAndLookAgain();
        olderByOneYear();
        decidesOfMany();
        cracksBringAll();
        leastOfMany();
        leastOfOne();
        fullScripts();
        fullSimulation();
        Check.end();
    }

    // ---- promise 5

    private static int left(CordSeals x, String text) {
        Check.write(x, text);
        return x.load();
    }

    private static void loadFull() {
        CordSeals x = new CordSeals();
        Check.same("ten reigns", left(x, "r10000;r10017;r10020;r10030;r10040;r10050;r10060;r10070;r10080;r19991"), 0);
        Check.same("ten reigns", x.about(0), 10);
        Check.same("the last of ten", x.ofReign(9, 0), 1999);
        String ten = "r10000;r10010;r10020;r10030;r10040;r10050;r10060;r10070;r10080;r10090";
        Check.same("eleven reigns", left(x, ten + ";r10100"), 1);
        Check.same("ten of eleven", x.about(0), 10);
        Check.same("ten dies", left(x, "d51000-1999;".repeat(9) + "d01999-1999"), 0);
        Check.same("ten dies", x.about(1), 10);
        Check.same("the last of ten", x.ofDie(9, 1), 1999);
        Check.same("four cracks", left(x, "d01000-1999;k01000;k01999;k01500;k01501"), 0);
        Check.same("four cracks", x.ofDie(0, 3), 4);
        Check.same("five cracks", left(x, "d01000-1999;k01000;k01999;k01500;k01501;k01502;w0.000123"), 1);
        Check.same("four of five cracks", x.crackYear(0, 3), 1501);
        Check.same("all four are shown", x.ofSeal(0, 4), 15);
        Check.same("a full text", left(x, Full.text()), 1);
        Check.same("seals of a full text", x.about(2), 17);
        Check.same("die and years the wrong way round", left(x, "d01999-1000;d01000-1000"), 1);
        Check.same("one entry", left(x, "h235"), 1);
        Check.same("bubbles", left(x, "d01000-1999;w0.00;w0.09;w0.10;b0.99"), 0);
        int[] due = {0, 9, 10, 99};
        for (int s = 0; s < 4; s++) {
            Check.same("bubbles of seal " + s, x.ofSeal(s, 3), due[s]);
        }
    }

    private static void loadUpToTheHighestSeal() {
        CordSeals x = Check.loaded("d01000-1999" + ";w0.00".repeat(16) + ";h155;h160");
        Check.same("seal 15 hangs", x.ofSeal(15, 5), 5);
        Check.same("only seal 15 does", x.about(5), 1);
        x = Check.loaded("d01000-1999" + ";w0.00".repeat(12) + ";h091;h102;h113");
        Check.same("seal 9 hangs", x.ofSeal(9, 5), 1);
        Check.same("seal 10 hangs", x.ofSeal(10, 5), 2);
        Check.same("seal 11 hangs", x.ofSeal(11, 5), 3);
    }

    // What was there ahead of load must not be seen again in rows that are used again.
    private static void loadForgetsRows() {
        CordSeals x = Full.make();
        for (int s = 0; s < 24; s++) {
            x.hang(s, s % 6);
        }
        x.set(0, 0);
        x.set(1, 0);
        Check.same("load", left(x, "d21000-1999;d21000-1999;w0.00"), 0);
        Check.same("die 0 has no crack", x.ofDie(0, 3), 0);
        Check.same("the year of an old crack is free", x.crack(0, 1100), 0);
        Check.same("and that of the second one", x.ifCracked(0, 1200), 0);
        Check.same("and that of the second one, too", x.crack(0, 1200), 1);
        Check.same("seal 0 hangs nowhere", x.ofSeal(0, 5), NONE);
        Check.same("a new seal hangs nowhere", x.ofSeal(x.seal(1, 0, NONE, 10, 0), 5), NONE);
        Check.same("and is on no shelf", x.ofSeal(1, 6), NONE);
        Check.same("shelf 0 takes another house", x.shelve(1, 0, 0), 1);
        Check.same("a new reign may begin in 1000", x.reign(1000, 4), 0);
        Check.same("ten bubbles of wax are none too many", x.about(4), 0);
    }

    // ---- promises 6 to 14

    private static void numbers(String what, int[] due, java.util.function.IntUnaryOperator number) {
        for (int i = 0; i < due.length; i++) {
            Check.same(what + " number " + i, number.applyAsInt(i), due[i]);
        }
    }

    private static void fullNumbers() {
        CordSeals x = Full.make();
        numbers("about full", new int[] {10, 10, 24, 0, 0, 0, 0, 11, 0}, x::about);
        numbers("the first of ten reigns", new int[] {1000, 1099, 1}, what -> x.ofReign(0, what));
        numbers("the ninth of ten reigns", new int[] {1800, 1899, 1}, what -> x.ofReign(8, what));
        numbers("the tenth reign", new int[] {1900, 1999, 2}, what -> x.ofReign(9, what));
        numbers("the tenth die", new int[] {5, 1000, 1999, 4, 2, 0}, what -> x.ofDie(9, what));
        numbers("cracks of the tenth die", new int[] {1109, 1209, 1309, 1409}, k -> x.crackYear(9, k));
        numbers("the last seal", new int[] {9, 0, NONE, 10, 0, NONE, NONE, NONE}, what -> x.ofSeal(23, what));
        numbers("the last of a full shelf", new int[] {6, 0, NONE, 10, 0, NONE, 0, 5}, what -> x.ofSeal(6, what));
        numbers("years of the last seal", new int[] {1000, 1109, 110, 0}, what -> x.dated(23, what));
        numbers("a full shelf", new int[] {1, 2, 3, 4, 5, 6, NONE, NONE}, k -> x.onShelf(0, k));
        numbers("the last shelf", new int[] {11, NONE}, k -> x.onShelf(5, k));
    }

    // Each number of about() at the most that it can be.
    private static void fullCounts() {
        CordSeals x = Full.make();
        for (int s = 0; s < 24; s++) {
            x.hang(s, s % 6);
        }
        Check.same("all hang", x.about(5), 24);
        Check.same("no charter with a fake", x.about(6), 0);
        x.set(0, 9);
        numbers("all are casts", new int[] {10, 10, 24, 24, 24, 24, 6}, x::about);
        numbers("the last charter", new int[] {4, NONE, NONE, 0, 4}, what -> x.charter(5, what));
        Check.same("fakes of die 9", x.ofDie(9, 5), 2);
        Check.same("seals of die 1", x.ofDie(1, 4), 3);
        Check.same("fakes of die 1", x.ofDie(1, 5), 3);
        CordSeals y = new CordSeals();
        y.die(0, 1000, 1000);
        y.die(0, 1001, 1999);
        for (int s = 0; s < 24; s++) {
            y.seal(s % 2, 0, NONE, 0, 0);
            y.shelve(s, s / 4, 0);
        }
        Check.same("all are on shelves", y.about(7), 24);
        Check.same("the earlier one ahead on none", y.about(8), 6);
        for (int h = 0; h < 6; h++) {
            Check.same("sort of shelf " + h, y.sort(h), 4);
            Check.same("shelves that are not good", y.about(8), 5 - h);
        }
    }

    private static void colours() {
        for (int colour = 0; colour <= 7; colour++) {
            CordSeals x = new CordSeals();
            x.die(0, 1000, 1999);
            x.reign(1100, 255 - (1 << colour));
            x.seal(0, 0, colour, 0, 0);
            Check.same("a colour that was not used", x.dated(0, 3), 2);
            x.reign(1999, 1 << colour);
            Check.same("a colour of one year", x.dated(0, 3), 0);
            Check.same("the first year of it", x.dated(0, 0), 1999);
            Check.same("the years of it", x.dated(0, 2), 1);
            Check.same("1999", x.inYear(1999), 1);
            Check.same("1998", x.inYear(1998), 0);
        }
        CordSeals y = new CordSeals();
        y.die(0, 1000, 1099);
        y.reign(1100, 1);
        y.seal(0, 0, 0, 0, 0);
        y.seal(0, 0, 1, 0, 0);
        Check.same("a right year, but not of the die", y.dated(0, 3), 3);
        Check.same("no right year", y.dated(1, 3), 2);
        Check.same("ahead of the first reign no colour is right", y.inYear(1099), 0);
    }

    private static void firstAndLastYear() {
        CordSeals x = new CordSeals();
        x.die(0, 1000, 1999);
        x.die(0, 1000, 1000);
        x.die(0, 1999, 1999);
        for (int d = 0; d < 3; d++) {
            x.seal(d, 0, NONE, 0, 0);
        }
        numbers("all years", new int[] {1000, 1999, 1000, 0}, what -> x.dated(0, what));
        numbers("1000 alone", new int[] {1000, 1000, 1, 0}, what -> x.dated(1, what));
        numbers("1999 alone", new int[] {1999, 1999, 1, 0}, what -> x.dated(2, what));
        Check.holds("all years: 1000", x.isPossible(0, 1000));
        Check.holds("all years: 1999", x.isPossible(0, 1999));
        CordSeals y = new CordSeals();
        y.die(0, 1000, 1000);
        y.seal(0, 0, NONE, 0, 0);
        Check.holds("1000, asked first", y.isPossible(0, 1000));
        Check.holds("1001", !y.isPossible(0, 1001));
        y.crack(0, 1999);
        y.show(0, 1);
        Check.holds("1000 ahead of a crack", !y.isPossible(0, 1000));
        Check.same("1000 in two", x.inYear(1000), 2);
        Check.same("1001 in one", x.inYear(1001), 1);
        Check.same("1998 in one", x.inYear(1998), 1);
        Check.same("1999 in two", x.inYear(1999), 2);
        Check.same("24 in 1000", Full.make().inYear(1000), 24);
        Check.same("24 in 1100", Full.make().inYear(1100), 24);
        Check.same("22 in 1101", Full.make().inYear(1101), 22);
        Check.same("2 in 1109", Full.make().inYear(1109), 2);
        Check.same("none in 1110", Full.make().inYear(1110), 0);
        CordSeals z = new CordSeals();
        z.die(0, 1100, 1199);
        z.reign(1000, 1);
        z.reign(1100, 2);
        z.reign(1200, 1);
        z.seal(0, 0, 0, 0, 0);
        z.seal(0, 0, 1, 0, 0);
        Check.same("a reign ends just ahead of the die and one begins just behind it", z.dated(0, 3), 3);
        Check.same("and one is just as long", z.dated(1, 2), 100);
    }

    private static void crackYears() {
        CordSeals x = new CordSeals();
        x.die(0, 1100, 1199);
        x.crack(0, 1150);
        x.seal(0, 0, NONE, 0, 0);
        x.seal(0, 0, NONE, 0, 1);
        Check.same("the year of the crack without it", x.dated(0, 1), 1150);
        Check.same("the year of the crack with it", x.dated(1, 0), 1150);
        x.crack(0, 1149);
        x.show(0, 1);
        Check.same("with a crack and without one of a year ahead of it", x.dated(0, 3), 3);
        x.show(0, 2);
        Check.same("without a crack and with one of a year ahead of it", x.dated(0, 2), 2);
        CordSeals y = new CordSeals();
        y.die(0, 1100, 1199);
        y.crack(0, 1199);
        y.crack(0, 1200);
        y.crack(0, 1100);
        y.crack(0, 1099);
        y.seal(0, 0, NONE, 0, 0b1101);
        Check.same("with the one of the last year", y.dated(0, 2), 1);
        y.show(0, 0b1110);
        Check.same("with one of a year behind the last one", y.dated(0, 3), 3);
        y.show(0, 0b1000);
        Check.same("without the one of the first year", y.dated(0, 2), 1);
        y.show(0, 0b0100);
        Check.same("without one of a year ahead of the first one", y.dated(0, 3), 3);
    }

    private static void bubbles() {
        for (int material = 0; material <= 1; material++) {
            CordSeals x = new CordSeals();
            int most = material == 0 ? 10 : 3;
            x.die(0, 1000, 1999);
            x.seal(0, material, NONE, most, 0);
            x.seal(0, material, NONE, most + 1, 0);
            x.seal(0, material, NONE, 99, 0);
            x.seal(0, material, NONE, 0, 0);
            numbers("casts at first", new int[] {0, 1, 1, 0}, s -> x.dated(s, 3));
            x.set(material, 98);
            numbers("casts at 98", new int[] {0, 0, 1, 0}, s -> x.dated(s, 3));
            x.set(material, 99);
            Check.same("casts at 99", x.about(4), 0);
            x.set(material, 0);
            numbers("casts at 0", new int[] {1, 1, 1, 0}, s -> x.dated(s, 3));
            x.set(1 - material, 99);
            Check.same("the other setting does not matter", x.about(4), 3);
        }
    }

    private static void fullCharter() {
        CordSeals x = Full.make();
        for (int s = 0; s < 24; s++) {
            Check.same("hang on charter 5", x.hang(s, 5), s + 1);
        }
        numbers("a charter of all seals", new int[] {24, 1000, 1100, 101, 0}, what -> x.charter(5, what));
        x.show(23, 0b0001);
        numbers("one common year is missing", new int[] {24, NONE, NONE, 0, 24}, what -> x.charter(5, what));
        Check.same("fakes by their charter", x.about(3), 24);
        Check.same("the one that decides", x.decides(5), 23);
        Check.same("charters with a fake", x.about(6), 1);
        x.show(23, 0b0010);
        Check.same("it has no years", x.dated(23, 3), 3);
        numbers("a fake by 3 does not count", new int[] {24, 1000, 1100, 101, 1}, what -> x.charter(5, what));
        CordSeals y = new CordSeals();
        y.die(0, 1000, 1999);
        y.seal(0, 0, NONE, 0, 0);
        Check.same("all years of a charter", y.ifHung(0, 0), 1000);
        y.hang(0, 0);
        numbers("all years of a charter", new int[] {1, 1000, 1999, 1000, 0}, what -> y.charter(0, what));
        y.cut(0);
        numbers("an empty charter", new int[] {0, NONE, NONE, 0, 0}, what -> y.charter(0, what));
    }

    private static void shelfOrder() {
        CordSeals x = new CordSeals();
        x.die(0, 1000, 1999);
        x.die(0, 1001, 1999);
        x.die(0, 1999, 1999);
        for (int d = 0; d < 3; d++) {
            x.seal(d, 0, NONE, 0, 0);
            x.shelve(d, 0, d);
        }
        Check.same("1000, 1001, 1999", x.about(8), 0);
        x.shelve(0, 0, 1);
        Check.same("1001, 1000, 1999", x.about(8), 1);
        x.shelve(0, 0, 2);
        Check.same("1001, 1999, 1000", x.about(8), 1);
        x.shelve(1, 0, 2);
        Check.same("1999, 1000, 1001", x.about(8), 1);
        x.shelve(2, 1, 0);
        Check.same("1000, 1001 and 1999", x.about(8), 0);
        x.seal(1, 0, NONE, 0, 0);
        x.shelve(3, 0, 2);
        Check.same("1000, 1001, 1001", x.about(8), 0);
        x.seal(0, 0, NONE, 99, 0);
        x.shelve(4, 0, 3);
        Check.same("1000, 1001, 1001 and a cast of 1000", x.about(8), 0);
        x.set(0, 99);
        Check.same("1000, 1001, 1001, 1000", x.about(8), 1);
    }

    // ---- promises 22 to 26

    private static void order(CordSeals x, int h, int... seals) {
        for (int k = 0; k <= 6; k++) {
            Check.same("place " + k + " of shelf " + h, x.onShelf(h, k), k < seals.length ? seals[k] : NONE);
        }
    }

    private static CordSeals backward() {
        CordSeals x = new CordSeals();
        for (int d = 0; d < 6; d++) {
            x.die(0, 1005 - d, 1999);
            x.seal(d, 0, NONE, d, 0);
            x.shelve(d, 5, d);
        }
        return x;
    }

    private static void sortedShelves() {
        CordSeals x = backward();
        Check.same("a full shelf backward", x.sort(5), 6);
        order(x, 5, 5, 4, 3, 2, 1, 0);
        Check.same("sorted already", x.sort(5), 0);
        Check.same("an empty shelf", x.sort(0), 0);
        CordSeals y = backward();
        y.set(0, 2);
        Check.same("three fakes stay behind", y.sort(5), 2);
        order(y, 5, 2, 1, 0, 3, 4, 5);
        y.set(0, 0);
        Check.same("only one is no fake", y.sort(5), 3);
        order(y, 5, 0, 2, 1, 3, 4, 5);
        CordSeals z = new CordSeals();
        z.die(0, 1000, 1999);
        for (int s = 0; s < 6; s++) {
            z.seal(0, 0, NONE, 11, 0);
            z.shelve(s, 0, 0);
        }
        Check.same("only fakes stay in their order", z.sort(0), 0);
        order(z, 0, 5, 4, 3, 2, 1, 0);
        z.set(0, 11);
        Check.same("equal ones stay in their order", z.sort(0), 0);
        order(z, 0, 5, 4, 3, 2, 1, 0);
        z.take(5);
        Check.same("one is taken", z.sort(0), 0);
        order(z, 0, 4, 3, 2, 1, 0);
    }

    private static void moving() {
        CordSeals x = Full.make();
        Check.same("from a full shelf", x.shelve(6, 5, 1), 2);
        order(x, 0, 1, 2, 3, 4, 5);
        order(x, 5, 11, 6);
        Check.same("there is room again", x.shelve(7, 0, 0), 6);
        order(x, 0, 7, 1, 2, 3, 4, 5);
        order(x, 1);
        Check.same("shelf 1 is empty and takes house 5", x.shelve(23, 1, 0), 1);
        Check.same("within the full shelf", x.shelve(7, 0, 5), 6);
        order(x, 0, 1, 2, 3, 4, 5, 7);
        CordSeals y = backward();
        Check.same("take from a full last shelf", y.take(2), 5);
        order(y, 5, 0, 1, 3, 4, 5);
        Check.same("put it back, last", y.shelve(2, 5, 5), 6);
        Check.same("take the last of the last shelf", y.take(2), 5);
        order(y, 5, 0, 1, 3, 4, 5);
        Check.same("take the first of six", x.take(1), 0);
        order(x, 0, 2, 3, 4, 5, 7);
        Check.same("take the last one", x.take(7), 0);
        order(x, 0, 2, 3, 4, 5);
        Check.same("take the only one", x.take(23), 1);
        order(x, 1);
        Check.same("its shelf", x.ofSeal(23, 6), NONE);
        Check.same("its place", x.ofSeal(23, 7), NONE);
        Check.same("seals on shelves", x.about(7), 9);
    }

    private static void remembered() {
        for (int actions = 12; actions <= 16; actions++) {
            CordSeals x = new CordSeals();
            for (int v = 1; v <= actions; v++) {
                x.set(0, v);
            }
            int least = Math.max(0, actions - 14);
            for (int v = actions; v > least; v--) {
                Check.same("undo", x.undo(), v - 1 - least);
            }
            Check.badState(x, "an undo more", x::undo);
            Check.same("the setting ahead of them", x.set(0, 50), least == 0 ? 10 : least);
        }
    }

    // Undo, then other actions, again and again: what is remembered has to stay as it was.
    private static void undoAndActAgain() {
        CordSeals x = new CordSeals();
        x.die(0, 1000, 1999);
        x.seal(0, 0, NONE, 0, 0);
        for (int v = 1; v <= 30; v++) {
            x.set(0, v);
            x.set(1, v);
            Check.same("hang", x.hang(0, v % 6), 1);
            x.undo();
            x.undo();
            x.set(1, 60 + v);
        }
        // The first look below is an action, too: of round 24 only the later state is left behind it.
        for (int v = 30; v >= 24; v--) {
            Check.same("setting 1 of round " + v, x.set(1, 0), 60 + v);
            x.undo();
            x.undo();
            Check.same("setting 0 of round " + v, x.set(0, 0), v);
            Check.same("remembered in round " + v, x.undo(), 2 * (v - 24));
            if (v > 24) {
                x.undo();
            }
        }
        Check.badState(x, "undo of what is forgotten", x::undo);
    }

    // With looks alone between, that do not touch what actions are tried on.
    private static void undoAndLookAgain() {
        CordSeals x = new CordSeals();
        x.die(0, 1000, 1999);
        x.seal(0, 0, NONE, 0, 0);
        x.hang(0, 0);
        x.hang(0, 1);
        x.undo();
        x.hang(0, 2);
        x.hang(0, 3);
        Check.same("undo of hang(0, 3)", x.undo(), 4);
        Check.same("charter then", x.ofSeal(0, 5), 2);
        Check.same("undo of hang(0, 2)", x.undo(), 3);
        Check.same("charter then", x.ofSeal(0, 5), 0);
        x.hang(0, 4);
        Check.noSuch(x, "hang(0, 6)", () -> x.hang(0, 6));
        Check.same("what would be", x.ifHung(0, 5), 1000);
        Check.same("undo of hang(0, 4)", x.undo(), 3);
        Check.same("charter then", x.ofSeal(0, 5), 0);
        Check.same("undo of hang(0, 0)", x.undo(), 2);
        Check.same("charter then", x.ofSeal(0, 5), NONE);
        Check.same("seals then", x.about(2), 1);
    }

    // ---- promises 27 to 34

    private static void olderByOneYear() {
        CordSeals x = new CordSeals();
        x.die(0, 1000, 1499);
        x.die(0, 1500, 1999);
        x.die(0, 1499, 1500);
        x.die(0, 1000, 1000);
        x.die(0, 1999, 1999);
        for (int d = 0; d < 5; d++) {
            x.seal(d, 0, NONE, 0, 0);
        }
        Check.same("up to 1499 and from 1500", x.older(0, 1), 0);
        Check.same("from 1500 and up to 1499", x.older(1, 0), 0);
        Check.same("up to 1499 and from 1499", x.older(0, 2), NONE);
        Check.same("from 1500 and up to 1500", x.older(1, 2), NONE);
        Check.same("1000 and 1999", x.older(3, 4), 3);
        Check.same("1999 and 1000", x.older(4, 3), 3);
        Check.same("1000 and from 1000", x.older(3, 0), NONE);
        Check.same("1999 and up to 1999", x.older(4, 1), NONE);
        Check.same("one year and itself", x.older(4, 4), NONE);
        x.crack(3, 1001);
        x.show(3, 1);
        Check.same("no year and 1999", x.older(3, 4), NONE);
        Check.same("1999 and no year", x.older(4, 3), NONE);
        Check.same("no year and itself", x.older(3, 3), NONE);
    }

    private static void decidesOfMany() {
        CordSeals x = Full.make();
        for (int s = 0; s < 24; s++) {
            x.hang(s, 0);
        }
        Check.same("9 and 18 are possible up to 1100, so none alone matters: the lowest", x.decides(0), 0);
        x.cut(9);
        Check.same("18 alone is possible up to 1100", x.decides(0), 18);
        x.cut(18);
        Check.same("1, 10 and 19 up to 1101, so none alone matters: the lowest", x.decides(0), 0);
        for (int s = 0; s < 23; s++) {
            x.hang(s, 5);
        }
        Check.same("one seal is left: the highest", x.decides(0), 23);
        Check.same("all the others", x.decides(5), 0);
        x.show(22, 1);
        Check.same("the highest of the others", x.decides(5), 22);
        x.set(0, 9);
        Check.same("only fakes", x.decides(5), NONE);
    }

    private static void cracksBringAll() {
        CordSeals x = new CordSeals();
        x.die(0, 1001, 1999);
        for (int s = 0; s < 24; s++) {
            x.seal(0, 0, NONE, 0, 0);
        }
        Check.same("a crack in 1000 makes fakes of all", x.ifCracked(0, 1000), 24);
        Check.same("one in 1001 of none", x.ifCracked(0, 1001), 0);
        Check.same("one in 1999 of none", x.ifCracked(0, 1999), 0);
        Check.same("none is a fake", x.about(3), 0);
        x.crack(0, 1999);
        x.crack(0, 1998);
        x.crack(0, 1997);
        Check.same("the fourth crack may be asked for", x.ifCracked(0, 1000), 24);
        x.crack(0, 1996);
        Check.badState(x, "not the fifth one", () -> x.ifCracked(0, 1000));
        CordSeals y = new CordSeals();
        y.die(0, 1000, 1999);
        y.die(0, 1500, 1500);
        y.crack(0, 1499);
        for (int s = 0; s < 24; s++) {
            y.seal(s < 23 ? 0 : 1, 0, NONE, 0, 0);
            y.hang(s, 0);
        }
        Check.same("23 are possible up to 1499, one in 1500", y.about(3), 24);
        Check.same("a crack in 1500 leaves that one its year", y.ifCracked(1, 1500), 0);
        Check.same("one in 1499 takes it, so the others are none", y.ifCracked(1, 1499), -23);
    }

    private static void leastOfMany() {
        CordSeals x = new CordSeals();
        x.die(0, 1000, 1999);
        for (int s = 0; s < 12; s++) {
            x.seal(0, 0, NONE, s, 0);
            x.seal(0, 1, NONE, 99 - s, 0);
        }
        Check.same("24 fakes", x.leastBubbles(0, 24), 0);
        Check.same("13 fakes of wax", x.leastBubbles(0, 13), 10);
        Check.same("12 fakes of wax", x.leastBubbles(0, 12), 11);
        Check.same("11 fakes of wax are too few", x.leastBubbles(0, 11), NONE);
        Check.same("13 fakes of lead", x.leastBubbles(1, 13), 0);
        Check.same("12 fakes of lead", x.leastBubbles(1, 12), 88);
        Check.same("1 fake of lead", x.leastBubbles(1, 1), 99);
        Check.same("no fake of lead", x.leastBubbles(1, 0), NONE);
        x.set(0, 11);
        Check.same("no fake of lead with the other setting", x.leastBubbles(1, 0), 99);
        Check.same("the settings stay", x.set(0, 0), 11);
        Check.same("both of them", x.set(1, 0), 3);
    }

    private static void leastOfOne() {
        for (int bubbles = 0; bubbles <= 99; bubbles++) {
            CordSeals x = new CordSeals();
            x.die(0, 1000, 1999);
            x.seal(0, 1, NONE, bubbles, 0);
            Check.same("one seal of lead", x.leastBubbles(1, 0), bubbles);
            Check.same("it may be a fake", x.leastBubbles(1, 1), 0);
            Check.same("the setting of wax", x.leastBubbles(0, 0), bubbles > 3 ? NONE : 0);
        }
    }

    private static void script(CordSeals x, long group, int due) {
        Check.same("script " + group, x.runScript(1, group), due);
    }

    private static void fullScripts() {
        CordSeals x = Full.make();
        x.hang(23, 5);
        x.set(0, 99);
        script(x, 191500, 0);
        script(x, 223500, NONE);
        script(x, 223600, 0);
        script(x, 224000, 0);
        script(x, 323000, NONE);
        script(x, 322000, 0);
        script(x, 324000, 0);
        script(x, 422510, NONE);
        script(x, 422520, 0);
        script(x, 422600, 0);
        script(x, 423500, 0);
        script(x, 422060, 0);
        script(x, 401050, NONE);
        script(x, 401060, 0);
        script(x, 407000, 0);
        script(x, 407060, 0);
        script(x, 411500, NONE);
        script(x, 411510, 0);
        script(x, 523150, NONE);
        script(x, 523160, 0);
        script(x, 524000, 0);
        script(x, 650000, NONE);
        script(x, 660000, 0);
        script(x, 709900, NONE);
        script(x, 719900, NONE);
        script(x, 729900, 0);
        script(x, 800000, NONE);
        script(x, 800099, NONE);
        script(x, 800100, 0);
        script(x, 923000, NONE);
        script(x, 923001, 0);
        script(x, 924000, 0);
        for (int reason = 5; reason <= 9; reason++) {
            script(x, 900000 + reason, 0);
        }
        Check.same("23 casts at most", x.runScript(2, 700900800023L), 1);
        Check.same("24 casts at most", x.runScript(2, 700900800024L), NONE);
        CordSeals y = new CordSeals();
        y.die(0, 1000, 1999);
        script(y, 101000, NONE);
        script(y, 101999, NONE);
        script(y, 100999, 0);
        script(y, 102000, 0);
        script(y, 100000, 0);
        script(y, 109999, 0);
        script(y, 111000, 0);
        Check.same("up to three cracks", y.runScript(3, 101000101999101500L), NONE);
        y.crack(0, 1001);
        Check.same("a fourth crack", y.runScript(3, 101000101999101500L), NONE);
        y.crack(0, 1002);
        Check.same("a fifth crack", y.runScript(3, 101000101999101500L), 2);
        y.crack(0, 1003);
        y.crack(0, 1004);
        Check.same("no crack more", y.runScript(3, 101000101999101500L), 0);
    }

    private static void fullSimulation() {
        CordSeals x = Full.make();
        for (int s = 0; s < 24; s++) {
            x.hang(s, 0);
        }
        x.set(0, 9);
        String before = Check.picture(x);
        for (int m = 1; m <= 60; m++) {
            int end = x.simulate(m * 1000003L, m);
            Check.same("seals can't become more", end / 1000, 24);
            Check.same("all stay casts, so all shelves are good", end % 1000, 240);
        }
        Check.same("and nothing changes", Check.picture(x), before);
    }
}
