import java.util.function.Supplier;

/**
 * Each argument of each promise at both ends of its range: what is allowed there, what is thrown just outside and far
 * outside, which exception comes first where several apply, and that a call that throws or only looks changes nothing.
 */
public final class RangesTest {
    private static final int MAX = Integer.MAX_VALUE;
    private static final int MIN = Integer.MIN_VALUE;
    private static final String INDEX = "IndexOutOfBoundsException";
    private static final String ARGUMENT = "IllegalArgumentException";
    private static final String STATE = "IllegalStateException";
    private static final String NOTHING = "nothing";

    /**
     * An argument: a value of it, the least and the greatest one that are allowed, the first and the last one to try
     * beside that value, and what is thrown for values that are not allowed.
     */
    private record Arg(int base, int least, int greatest, int first, int last, String due) {
        Arg trying(int from, int to) {
            return new Arg(base, least, greatest, from, to, due);
        }

        int[] wrong() {
            if (greatest == MAX) {
                return new int[] {least - 1, MIN};
            }
            return new int[] {least - 1, MIN, greatest + 1, MAX};
        }
    }

    private static Arg index(int base, int least, int greatest) {
        return new Arg(base, least, greatest, least, greatest, INDEX);
    }

    private static Arg value(int base, int least, int greatest) {
        return new Arg(base, least, greatest, least, greatest, ARGUMENT);
    }

    public static void main(String[] args) {
        whatThereIs();
        actions();
        whatWouldBe();
        scripts();
        textAndSlots();
        full();
        notNow();
        nothingThere();
        Check.end();
    }

    /** Sample with seals on charters and shelves, a text and both slots saved; there is room for more of each. */
    private static CordSeals roomy() {
        CordSeals x = Sample.make();
        for (int s = 0; s < 9; s++) {
            x.hang(s, s % 4);
        }
        x.shelve(0, 0, 0);
        x.shelve(7, 3, 0);
        x.save(1);
        x.shelve(8, 3, 1);
        x.set(0, 20);
        x.save(0);
        x.undo();
        Check.write(x, "r11000;d01090-1180;w0005;h000");
        return x;
    }

    private static CordSeals withText(String text) {
        CordSeals x = roomy();
        Check.write(x, text);
        return x;
    }

    // ---- what is allowed at the ends

    private static void whatThereIs() {
        row(RangesTest::roomy, 6, NOTHING, value(0, 0, 8));
        row(RangesTest::roomy, 7, NOTHING, index(1, 0, 2), value(0, 0, 2));
        row(RangesTest::roomy, 8, NOTHING, index(1, 0, 2), value(0, 0, 5));
        row(RangesTest::roomy, 9, NOTHING, index(1, 0, 1), index(0, 0, 1));
        row(RangesTest::roomy, 10, NOTHING, index(1, 0, 8), value(0, 0, 7));
        row(RangesTest::roomy, 11, NOTHING, index(1, 0, 8), value(0, 0, 3));
        row(RangesTest::roomy, 12, NOTHING, index(1, 0, 8), value(1500, 1000, 1999));
        row(RangesTest::roomy, 13, NOTHING, index(1, 0, 5), value(0, 0, 4));
        row(RangesTest::roomy, 14, NOTHING, index(3, 0, 5), value(0, 0, MAX));
    }

    private static void actions() {
        row(CordSeals::new, 15, NOTHING, value(1500, 1000, 1999), value(1, 1, 255));
        row(RangesTest::roomy, 16, NOTHING, value(0, 0, 5), value(1500, 1000, 1600), value(1600, 1500, 1999));
        row(RangesTest::roomy, 16, NOTHING, value(0, 0, 5), value(1999, 1000, 1999), value(1999, 1999, 1999));
        row(RangesTest::roomy, 16, NOTHING, value(0, 0, 5), value(1000, 1000, 1000), value(1000, 1000, 1999));
        row(RangesTest::roomy, 17, NOTHING, index(0, 0, 2), value(1500, 1000, 1999));
        row(RangesTest::roomy, 18, NOTHING, index(0, 0, 2), value(0, 0, 1), value(0, -1, 7), value(0, 0, 99),
            value(0, 0, 1));
        row(RangesTest::roomy, 18, NOTHING, index(1, 0, 2), value(0, 0, 1), value(0, -1, 7), value(0, 0, 99),
            value(0, 0, 3));
        row(RangesTest::roomy, 18, NOTHING, index(2, 0, 2), value(0, 0, 1), value(0, -1, 7), value(0, 0, 99),
            value(0, 0, 0));
        row(Full::make, 19, NOTHING, index(5, 0, 23), value(0, 0, 15));
        row(RangesTest::roomy, 19, NOTHING, index(0, 0, 8), value(0, 0, 1));
        row(RangesTest::roomy, 19, NOTHING, index(8, 0, 8), value(0, 0, 3));
        row(RangesTest::roomy, 19, NOTHING, index(5, 0, 8), value(0, 0, 0));
        row(RangesTest::roomy, 20, NOTHING, index(4, 0, 8), index(4, 0, 5));
        row(RangesTest::roomy, 21, NOTHING, index(4, 0, 8));
        row(RangesTest::roomy, 22, NOTHING, index(4, 0, 8), index(5, 0, 5).trying(1, 5), value(0, 0, 0));
        row(RangesTest::roomy, 22, NOTHING, index(4, 0, 8).trying(2, 4), index(3, 0, 5).trying(1, 3), value(0, 0, 2));
        row(RangesTest::roomy, 22, NOTHING, index(8, 0, 8).trying(6, 8), index(3, 0, 5).trying(1, 5), value(0, 0, 1));
        row(RangesTest::roomy, 23, NOTHING, index(7, 0, 8));
        row(RangesTest::roomy, 24, NOTHING, index(3, 0, 5));
        row(RangesTest::roomy, 25, NOTHING, value(0, 0, 1), value(5, 0, 99));
    }

    private static void whatWouldBe() {
        row(RangesTest::roomy, 27, NOTHING, index(4, 0, 8), index(4, 0, 8));
        row(RangesTest::roomy, 28, NOTHING, index(3, 0, 5));
        row(RangesTest::roomy, 29, NOTHING, index(0, 0, 2), value(1500, 1000, 1999));
        row(RangesTest::roomy, 30, NOTHING, index(4, 0, 8), index(4, 0, 5));
        row(RangesTest::roomy, 31, NOTHING, value(1500, 1000, 1999));
        row(RangesTest::roomy, 32, NOTHING, value(0, 0, 1), value(5, 0, MAX));
    }

    private static void scripts() {
        row(RangesTest::roomy, 33, NOTHING, value(2, 1, 3));
        row(RangesTest::roomy, 34, NOTHING, value(30, 1, 60));
        long most = 1;
        for (int n = 1; n <= 3; n++) {
            most *= 1000000;
            script(n, 0, NOTHING);
            script(n, most - 1, NOTHING);
            script(n, most, ARGUMENT);
            script(n, -1, ARGUMENT);
            script(n, Long.MAX_VALUE, ARGUMENT);
            script(n, Long.MIN_VALUE, ARGUMENT);
            // Its lower 32 bits alone would be a script.
            script(n, 1L << 62, ARGUMENT);
        }
        for (long succeeds : new long[] {101500502010204500L, 304000404300650000L, 719900800024900004L}) {
            Check.same("script " + succeeds, roomy().runScript(3, succeeds), CordSeals.NONE);
            script(3, succeeds, NOTHING);
        }
        script(0, 0, ARGUMENT);
        script(4, 999999, ARGUMENT);
        script(0, -1, ARGUMENT);
        script(4, -1, ARGUMENT);
    }

    private static void script(int n, long script, String due) {
        CordSeals x = roomy();
        String before = everything(roomy());
        Check.same("runScript(" + n + ", " + script + ") throws", thrown(x, 33, new int[] {n}, script), due);
        Check.same("behind runScript(" + n + ", " + script + ")", everything(x), before);
    }

    private static void textAndSlots() {
        row(RangesTest::roomy, 2, NOTHING, value('r', 0, 255));
        row(RangesTest::roomy, 3, NOTHING);
        row(RangesTest::roomy, 4, NOTHING);
        row(RangesTest::roomy, 5, NOTHING);
        row(RangesTest::roomy, 35, NOTHING, index(0, 0, 1));
        row(RangesTest::roomy, 36, NOTHING, index(0, 0, 1));
    }

    // ---- what is full, and what can't be done now

    private static void full() {
        row(Full::make, 2, STATE, value('r', 0, 255));
        row(Full::make, 7, NOTHING, index(1, 0, 9), value(0, 0, 2));
        row(Full::make, 8, NOTHING, index(1, 0, 9), value(0, 0, 5));
        row(Full::make, 9, NOTHING, index(1, 0, 9), index(0, 0, 3));
        row(Full::make, 10, NOTHING, index(1, 0, 23), value(0, 0, 7));
        row(Full::make, 11, NOTHING, index(1, 0, 23), value(0, 0, 3));
        row(Full::make, 12, NOTHING, index(1, 0, 23), value(1500, 1000, 1999));
        row(Full::make, 14, NOTHING, index(0, 0, 5), value(0, 0, MAX));
        row(Full::make, 15, STATE, value(1999, 1000, 1999), value(1, 1, 255));
        row(Full::make, 16, STATE, value(0, 0, 5), value(1500, 1000, 1999), value(1999, 1500, 1999));
        row(Full::make, 17, STATE, index(0, 0, 9), value(1500, 1000, 1999));
        row(Full::make, 18, STATE, index(5, 0, 9), value(0, 0, 1), value(0, -1, 7), value(0, 0, 99), value(0, 0, 15));
        row(Full::make, 20, NOTHING, index(5, 0, 23), index(3, 0, 5));
        row(Full::make, 22, STATE, index(23, 0, 23), index(0, 0, 5), value(0, 0, 6));
        row(Full::make, 22, STATE, index(12, 0, 23).trying(7, 22), index(0, 0, 5).trying(0, 0), value(0, 0, 6));
        row(Full::make, 22, NOTHING, index(3, 0, 23).trying(1, 6), index(0, 0, 5).trying(0, 0), value(0, 0, 5));
        row(Full::make, 27, NOTHING, index(4, 0, 23), index(4, 0, 23));
        row(Full::make, 29, STATE, index(0, 0, 9), value(1500, 1000, 1999));
        row(Full::make, 30, NOTHING, index(4, 0, 23), index(4, 0, 5));
    }

    private static void notNow() {
        row(() -> withText(""), 5, STATE);
        row(() -> withText("r1100"), 5, STATE);
        row(() -> withText("r110000"), 5, STATE);
        row(RangesTest::cracked, 17, STATE, index(0, 0, 0), value(1999, 1000, 1999).trying(1999, 1999));
        row(RangesTest::cracked, 29, STATE, index(0, 0, 0), value(1999, 1000, 1999).trying(1999, 1999));
        row(Full::make, 21, STATE, index(5, 0, 23));
        row(Full::make, 23, STATE, index(23, 0, 23));
        row(RangesTest::restored, 26, STATE);
        row(Full::make, 36, STATE, index(0, 0, 1));
    }

    /** One die with one crack, in 1999. */
    private static CordSeals cracked() {
        CordSeals x = new CordSeals();
        x.die(0, 1000, 1999);
        x.crack(0, 1999);
        return x;
    }

    private static CordSeals restored() {
        CordSeals x = roomy();
        x.restore(0);
        return x;
    }

    private static void nothingThere() {
        CordSeals x = new CordSeals();
        String before = everything(new CordSeals());
        int[] zeros = {0, 0, 0, 0, 0};
        for (int method : new int[] {7, 8, 9, 10, 11, 12, 17, 18, 19, 20, 21, 22, 23, 27, 29, 30}) {
            Check.same("promise " + method + " of a new object throws", thrown(x, method, zeros, 0), INDEX);
        }
        for (int method : new int[] {5, 26, 36}) {
            Check.same("promise " + method + " of a new object throws", thrown(x, method, zeros, 0), STATE);
        }
        Check.same("a new object behind what throws", everything(x), before);
        for (int method : new int[] {3, 4, 6, 13, 14, 24, 25, 28, 32, 35}) {
            Check.same("promise " + method + " of a new object", thrown(x, method, zeros, 0), NOTHING);
        }
    }

    // ---- how a row is tried

    /** The promise with its arguments at the ends (due is thrown, or nothing), and then with wrong ones. */
    private static void row(Supplier<CordSeals> make, int method, String due, Arg... args) {
        String before = everything(make.get());
        CordSeals refusing = make.get();
        int[] a = new int[args.length];
        for (int i = 0; i < a.length; i++) {
            a[i] = args[i].base;
        }
        boolean changes = due.equals(NOTHING) && !isLook(method);
        atTheEnds(changes ? make : () -> refusing, method, due, a, args);
        wrongOnes(refusing, method, a, args, 0, NOTHING);
        Check.same("all behind promise " + method + " that changes nothing", everything(refusing), before);
    }

    private static boolean isLook(int method) {
        return method == 4 || method >= 6 && method <= 14 || method >= 27 && method <= 34;
    }

    private static void atTheEnds(Supplier<CordSeals> objects, int method, String due, int[] a, Arg[] args) {
        expect(objects.get(), method, a, due);
        for (int i = 0; i < a.length; i++) {
            for (int end : new int[] {args[i].first, args[i].last}) {
                a[i] = end;
                expect(objects.get(), method, a, due);
            }
            a[i] = args[i].base;
        }
    }

    /** Every mixture of right and wrong arguments, but for that without a wrong one. */
    private static void wrongOnes(CordSeals x, int method, int[] a, Arg[] args, int i, String due) {
        if (i == args.length) {
            if (!due.equals(NOTHING)) {
                expect(x, method, a, due);
            }
            return;
        }
        wrongOnes(x, method, a, args, i + 1, due);
        for (int wrong : args[i].wrong()) {
            a[i] = wrong;
            wrongOnes(x, method, a, args, i + 1, due.equals(INDEX) ? due : args[i].due);
        }
        a[i] = args[i].base;
    }

    private static void expect(CordSeals x, int method, int[] a, String due) {
        Check.same("promise " + method + " " + java.util.Arrays.toString(a) + " throws", thrown(x, method, a, 0), due);
    }

    private static String thrown(CordSeals x, int method, int[] a, long wide) {
        try {
            Face.call(x, method, a, wide);
            return NOTHING;
        } catch (RuntimeException e) {
            return e.getClass().getSimpleName();
        }
    }

    /** All that can be found out of an object: it is used up by that. */
    private static String everything(CordSeals x) {
        StringBuilder out = new StringBuilder(Check.picture(x));
        while (thrown(x, 26, null, 0).equals(NOTHING)) {
            out.append("\nundone ").append(Check.picture(x));
        }
        for (int slot = 0; slot <= 1; slot++) {
            out.append("\nslot ").append(slot).append(' ').append(thrown(x, 36, new int[] {slot}, 0));
            out.append(' ').append(Check.picture(x));
        }
        out.append("\ntext ").append(thrown(x, 5, null, 0)).append(' ').append(Check.picture(x));
        out.append("\nits length ").append(x.clearText());
        return out.toString();
    }
}
