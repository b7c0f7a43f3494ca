import java.math.BigInteger;

/** Promises 33 and 34: runScript, simulate. */
public final class ScriptsTest {
    private static final int NONE = CordSeals.NONE;

    public static void main(String[] args) {
        ranges();
        eachCommand();
        wrongZeros();
        oneBehindTheOther();
        simulateRanges();
        eachTurn();
        manyTurns();
        overflow();
        Check.end();
    }

    private static void ranges() {
        CordSeals x = Sample.make();
        Check.badArgument(x, "no commands", () -> x.runScript(0, 0));
        Check.badArgument(x, "four commands", () -> x.runScript(4, 0));
        Check.badArgument(x, "max commands", () -> x.runScript(Integer.MAX_VALUE, 0));
        Check.badArgument(x, "min commands", () -> x.runScript(Integer.MIN_VALUE, 0));
        Check.badArgument(x, "a script below 0", () -> x.runScript(1, -1));
        Check.badArgument(x, "the least script", () -> x.runScript(3, Long.MIN_VALUE));
        Check.badArgument(x, "seven digits", () -> x.runScript(1, 1000000));
        Check.badArgument(x, "13 digits", () -> x.runScript(2, 1000000000000L));
        Check.badArgument(x, "19 digits", () -> x.runScript(3, 1000000000000000000L));
        Check.badArgument(x, "the greatest script", () -> x.runScript(3, Long.MAX_VALUE));
        Check.same("six nines", x.runScript(1, 999999), 0);
        Check.same("12 nines", x.runScript(2, 999999999999L), 0);
        Check.same("18 nines", x.runScript(3, 999999999999999999L), 0);
        Check.same("zeros before it", x.runScript(2, 800024), 0);
        Check.same("only zeros", x.runScript(3, 0), 0);
    }

    private static void script(CordSeals x, long group, int due) {
        Check.same("script " + group, x.runScript(1, group), due);
    }

    private static void eachCommand() {
        CordSeals x = Sample.make();
        x.hang(0, 0);
        x.shelve(0, 0, 0);
        script(x, 101121, NONE);
        script(x, 121050, NONE);
        script(x, 101120, 0);
        script(x, 100999, 0);
        script(x, 102000, 0);
        script(x, 131200, 0);
        script(x, 208500, NONE);
        script(x, 208600, 0);
        script(x, 209000, 0);
        script(x, 300000, NONE);
        script(x, 301000, 0);
        script(x, 309000, 0);
        script(x, 401010, NONE);
        script(x, 401020, 0);
        script(x, 402000, 0);
        script(x, 401600, 0);
        script(x, 409000, 0);
        script(x, 502030, NONE);
        script(x, 501000, NONE);
        script(x, 502040, 0);
        script(x, 502990, 0);
        script(x, 509000, 0);
        script(x, 600000, NONE);
        script(x, 650000, NONE);
        script(x, 660000, 0);
        script(x, 709900, NONE);
        script(x, 719900, NONE);
        script(x, 720000, 0);
        script(x, 800004, NONE);
        script(x, 800003, 0);
        script(x, 900000, NONE);
        script(x, 900001, 0);
        script(x, 903001, NONE);
        script(x, 904002, NONE);
        script(x, 905003, NONE);
        script(x, 905009, 0);
        script(x, 909000, 0);
        script(x, 999000, 0);
        script(x, 0, 0);
        script(x, 5, 0);
    }

    // Groups that succeed do not when another digit is where a 0 is written.
    private static void wrongZeros() {
        CordSeals x = Sample.make();
        x.hang(0, 0);
        int[][] spoiled = {{208500, 1, 10}, {300000, 1, 10, 100}, {400000, 1}, {502030, 1}, {610000, 1, 10, 100, 1000},
            {700100, 1, 10}, {800024, 100, 1000, 10000}, {900000, 10, 100}};
        for (int[] group : spoiled) {
            script(x, group[0], NONE);
            for (int i = 1; i < group.length; i++) {
                script(x, group[0] + group[i], 0);
                script(x, group[0] + 9 * group[i], 0);
            }
        }
    }

    private static void oneBehindTheOther() {
        CordSeals x = Sample.make();
        Check.same("hang, cut, genuine", x.runScript(3, 200000300000900000L), NONE);
        Check.same("cut fails first", x.runScript(3, 300000200000900000L), 0);
        Check.same("hang and hang are fakes by 4", x.runScript(3, 200000208000908004L), NONE);
        Check.same("the second fails", x.runScript(2, 200000900004L), 1);
        Check.same("the third fails", x.runScript(3, 200000208000908000L), 2);
        Check.same("a crack in the same year twice", x.runScript(2, 101999101999L), 1);
        Check.same("a crack may be shown then", x.runScript(3, 101999500030900003L), NONE);
        Check.same("its years are behind the die", x.runScript(2, 101130500020L), NONE);
        Check.same("set makes casts", x.runScript(2, 700400900001L), NONE);
        Check.same("set makes none", x.runScript(2, 700500900000L), NONE);
        Check.same("set of lead", x.runScript(2, 710400903000L), NONE);
        Check.same("set twice", x.runScript(3, 700000701000800004L), NONE);
        Check.same("shelve, shelve, another house", x.runScript(3, 400000401000402000L), 2);
        Check.same("shelve, sort, shelve", x.runScript(3, 400000600000401010L), NONE);
        Check.same("fakes at most", x.runScript(3, 200000208000800005L), 2);
        Check.same("fakes just", x.runScript(3, 200000208000800006L), NONE);
        Check.same("nothing hangs", x.about(5), 0);
        Check.same("no crack is new", x.ofDie(0, 3), 1);
    }

    private static void simulateRanges() {
        CordSeals x = Sample.make();
        Check.badArgument(x, "no turns", () -> x.simulate(1, 0));
        Check.badArgument(x, "61 turns", () -> x.simulate(1, 61));
        Check.badArgument(x, "turns below 0", () -> x.simulate(1, -1));
        Check.badArgument(x, "min turns", () -> x.simulate(Long.MIN_VALUE, Integer.MIN_VALUE));
        Check.badArgument(x, "max turns", () -> x.simulate(Long.MAX_VALUE, Integer.MAX_VALUE));
        CordSeals y = new CordSeals();
        for (int m = 1; m <= 60; m++) {
            Check.same("without dies", y.simulate(m * 77L, m), 0);
        }
    }

    private static int rOf(long seed) {
        return (int) (seed * 6364136223846793005L + 1442695040888963407L >>> 33);
    }

    // One turn of each kind, found by its seed, against the same action on another object.
    private static void eachTurn() {
        int[] seen = new int[8];
        for (long seed = -3000; seed < 3000; seed++) {
            int r = rOf(seed);
            if (seen[r % 8] >= 40) {
                continue;
            }
            seen[r % 8]++;
            CordSeals x = collection();
            CordSeals y = collection();
            try {
                turn(y, r % 8, r / 8);
            } catch (RuntimeException e) {
                seen[r % 8]--;
            }
            int due = 1000 * y.about(2) + 10 * y.about(3) + y.about(8);
            Check.same("simulate(" + seed + ", 1), a turn " + r % 8, x.simulate(seed, 1), due);
        }
        for (int kind = 0; kind < 8; kind++) {
            Check.holds("turns " + kind + " that do something", seen[kind] >= 20);
        }
    }

    private static CordSeals collection() {
        CordSeals x = new CordSeals();
        x.reign(1300, 0b01010101);
        x.reign(1500, 0b10101011);
        for (int d = 0; d < 10; d++) {
            x.die(d % 2, 1000 + 90 * d, 1250 + 70 * d);
        }
        for (int s = 0; s < 20; s++) {
            x.seal(s / 2, s % 2, s % 9 - 1, s % 5, 0);
        }
        for (int s = 0; s < 12; s++) {
            x.hang(s, s % 3);
            x.shelve(s, s / 2 % 2 + 2 * (s / 6), 0);
        }
        return x;
    }

    private static void turn(CordSeals y, int kind, int q) {
        switch (kind) {
            case 2: y.crack(q % 10, 1000 + q / 16 % 1000); break;
            case 3: y.show(q % 24, q / 32 % 16); break;
            case 4: y.hang(q % 24, q / 32 % 6); break;
            case 5: y.shelve(q % 24, q / 32 % 6, 0); break;
            case 6: y.cut(q % 24); break;
            case 7: y.sort(q % 6); break;
            default: y.seal(q % 10, q / 16 % 2, q / 32 % 9 - 1, q / 512 % 20, 0);
        }
    }

    private static void manyTurns() {
        for (long seed = 0; seed < 100; seed++) {
            CordSeals x = collection();
            CordSeals y = collection();
            long state = seed * 1234567890123L;
            int m = 1 + (int) (seed % 60);
            for (int i = 0; i < m; i++) {
                int r = rOf(state);
                state = state * 6364136223846793005L + 1442695040888963407L;
                try {
                    turn(y, r % 8, r / 8);
                } catch (RuntimeException e) {
                    // Left out.
                }
            }
            int due = 1000 * y.about(2) + 10 * y.about(3) + y.about(8);
            Check.same("simulate of " + m + " turns", x.simulate(seed * 1234567890123L, m), due);
            Check.same("the seals stay", x.about(2), 20);
        }
    }

    // The numbers without any long: what goes beyond 64 bits is cut off, and r is the upper 31 of them.
    private static void overflow() {
        BigInteger factor = new BigInteger("6364136223846793005");
        BigInteger more = new BigInteger("1442695040888963407");
        BigInteger all = BigInteger.ONE.shiftLeft(64);
        long[] seeds = {0, 1, -1, Long.MAX_VALUE, Long.MIN_VALUE, Long.MAX_VALUE - 1, Long.MIN_VALUE + 1, 1L << 32,
            -1L << 32, 1L << 62, 123456789012345678L, -987654321098765432L};
        int upper = 0;
        for (long seed : seeds) {
            BigInteger x = BigInteger.valueOf(seed).mod(all);
            CordSeals y = collection();
            for (int m = 1; m <= 60; m++) {
                x = x.multiply(factor).add(more).mod(all);
                upper += x.testBit(63) ? 1 : 0;
                int r = x.shiftRight(33).intValueExact();
                try {
                    turn(y, r % 8, r / 8);
                } catch (RuntimeException e) {
                    // Left out.
                }
                int due = 1000 * y.about(2) + 10 * y.about(3) + y.about(8);
                Check.same("simulate(" + seed + ", " + m + ")", collection().simulate(seed, m), due);
            }
        }
        Check.holds("x is negative as a long about half the time", upper > 240 && upper < 480);
    }
}
