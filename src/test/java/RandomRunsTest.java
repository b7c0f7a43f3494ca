import java.util.Random;

/** Runs of 512 calls each, made from fixed seeds, on the class and on the plain model beside it. */
public final class RandomRunsTest {
    private static final int RUNS = 400;
    private static final int CALLS = 512;

    // How often each promise is called (index: the promise's number).
    private static final int[] WEIGHT = {0, 0, 4, 2, 3, 3, 3, 3, 3, 3, 5, 6, 5, 6, 3,
        5, 5, 8, 22, 8, 12, 4, 14, 4, 5, 4, 7, 4, 5, 4, 4, 4, 2, 8, 2, 2, 2};

    private final Random random;
    private final CordSeals real = new CordSeals();
    private final Model model = new Model();
    private final int base;
    private final int width;
    private final int houses;

    private RandomRunsTest(int seed) {
        random = new Random(seed);
        width = new int[] {6, 30, 200, 1000}[random.nextInt(4)];
        base = 1000 + random.nextInt(1001 - width);
        houses = 1 + random.nextInt(6);
    }

    public static void main(String[] args) {
        for (int seed = 0; seed < RUNS; seed++) {
            new RandomRunsTest(seed).run(seed);
        }
        Check.end();
    }

    private void run(int seed) {
        int done = 0;
        if (random.nextInt(3) > 0) {
            done = start(seed);
        }
        for (int i = done; i < CALLS; i++) {
            int method = pick();
            if (method == 2 && random.nextInt(2) == 0) {
                i += write(seed, i) - 1;
            } else {
                step(seed, i, method, arguments(method), wide(method));
            }
        }
    }

    // Some reigns and dies first, so that the seals have years.
    private int start(int seed) {
        int done = 0;
        int year = base;
        for (int r = 0; r < 4; r++) {
            step(seed, done++, 15, new int[] {Math.min(1999, year), 1 + random.nextInt(255)}, 0);
            year += 1 + random.nextInt(Math.max(1, width / 4));
        }
        for (int d = 0; d < 5; d++) {
            step(seed, done++, 16, arguments(16), 0);
        }
        return done;
    }

    private int pick() {
        int all = 0;
        for (int w : WEIGHT) {
            all += w;
        }
        int at = random.nextInt(all);
        int method = 0;
        while (at >= WEIGHT[method]) {
            at -= WEIGHT[method];
            method++;
        }
        return method;
    }

    private void step(int seed, int i, int method, int[] a, long wide) {
        String got = outcome(() -> Face.call(real, method, a, wide));
        String due = outcome(() -> model.call(method, a, wide));
        String what = "seed " + seed + " call " + i + ": promise " + method + " " + java.util.Arrays.toString(a) + " "
            + wide;
        Check.same(what, got, due);
    }

    private static String outcome(Check.Call call) {
        try {
            return Long.toString(call.run());
        } catch (RuntimeException e) {
            return e.getClass().getSimpleName();
        }
    }

    // Seldom a wrong number, mostly one of those there are.
    private int upTo(int count) {
        int kind = random.nextInt(40);
        if (kind == 0) {
            return -1 - random.nextInt(2);
        }
        if (kind == 1) {
            return count + random.nextInt(2);
        }
        if (kind == 2) {
            return random.nextBoolean() ? Integer.MAX_VALUE : Integer.MIN_VALUE;
        }
        return random.nextInt(Math.max(1, count));
    }

    private int year() {
        int kind = random.nextInt(40);
        if (kind == 0) {
            return new int[] {999, 2000, 1000, 1999, 0, -1, Integer.MAX_VALUE, Integer.MIN_VALUE}[random.nextInt(8)];
        }
        return base + random.nextInt(width);
    }

    private int aSeal() {
        return upTo(model.state.seals.size());
    }

    private int aDie() {
        return upTo(model.state.dies.size());
    }

    private int cracksOf(int d) {
        boolean known = d >= 0 && d < model.state.dies.size();
        return upTo(known ? 1 << model.state.dies.get(d).cracks.size() : 16);
    }

    private int dieOf(int s) {
        return s >= 0 && s < model.state.seals.size() ? model.state.seals.get(s).die : -1;
    }

    private int bubbles() {
        return random.nextInt(12) == 0 ? upTo(100) : random.nextInt(5);
    }

    private int[] arguments(int method) {
        int d = aDie();
        int s = aSeal();
        switch (method) {
            case 2: return new int[] {random.nextInt(10) == 0 ? upTo(256) : "rdkwbh;-.01234567"
                    .charAt(random.nextInt(17))};
            case 6: return new int[] {upTo(9)};
            case 7: return new int[] {upTo(model.state.reigns.size()), upTo(3)};
            case 8: return new int[] {d, upTo(6)};
            case 9: return new int[] {d, upTo(4)};
            case 10: return new int[] {s, upTo(8)};
            case 11: return new int[] {s, upTo(4)};
            case 12: return new int[] {s, year()};
            case 13: return new int[] {upTo(6), upTo(5)};
            case 14: return new int[] {upTo(6), upTo(4)};
            case 15: return new int[] {year(), upTo(256)};
            case 16: {
                int from = year();
                return new int[] {upTo(houses), from, random.nextInt(3) == 0 ? year() : Math.max(from, year())};
            }
            case 17: case 29: return new int[] {d, year()};
            case 18: return new int[] {d, upTo(2), upTo(9) - 1, bubbles(), random.nextBoolean() ? 0 : cracksOf(d)};
            case 19: return new int[] {s, cracksOf(dieOf(s))};
            case 20: case 30: return new int[] {s, random.nextInt(3) == 0 ? upTo(6) : random.nextInt(3)};
            case 22: return new int[] {s, random.nextInt(3) == 0 ? upTo(6) : random.nextInt(2), upTo(4)};
            case 24: return new int[] {random.nextInt(3) == 0 ? upTo(6) : random.nextInt(2)};
            case 25: return new int[] {upTo(2), bubbles()};
            case 21: case 23: return new int[] {s};
            case 27: return new int[] {s, aSeal()};
            case 28: return new int[] {random.nextInt(3) == 0 ? upTo(6) : random.nextInt(3)};
            case 31: return new int[] {year()};
            case 32: return new int[] {upTo(2), upTo(12)};
            case 33: return new int[] {random.nextInt(20) == 0 ? upTo(5) : 1 + random.nextInt(3)};
            case 34: return new int[] {upTo(61)};
            case 35: case 36: return new int[] {upTo(2)};
            default: return new int[0];
        }
    }

    private long wide(int method) {
        if (method == 34) {
            return random.nextLong();
        }
        if (method != 33) {
            return 0;
        }
        int kind = random.nextInt(20);
        if (kind == 0) {
            return random.nextLong();
        }
        if (kind == 1) {
            return (long) Math.pow(10, random.nextInt(19)) - random.nextInt(2);
        }
        long script = 0;
        int groups = 1 + random.nextInt(3);
        for (int i = 0; i < groups; i++) {
            script = 1000000 * script + group();
        }
        return script;
    }

    private int group() {
        int s = Math.floorMod(aSeal(), 100);
        int small = random.nextInt(7);
        int spoiled = random.nextInt(25) == 0 ? random.nextInt(10) : 0;
        switch (random.nextInt(10)) {
            case 1: return 100000 + 10000 * Math.floorMod(aDie(), 10) + Math.floorMod(year(), 10000);
            case 2: return 200000 + 1000 * s + 100 * small + spoiled;
            case 3: return 300000 + 1000 * s + spoiled;
            case 4: return 400000 + 1000 * s + 100 * small + 10 * random.nextInt(3) + spoiled;
            case 5: return 500000 + 1000 * s + 10 * random.nextInt(18) + spoiled;
            case 6: return 600000 + 10000 * small + spoiled;
            case 7: return 700000 + 10000 * random.nextInt(3) + 100 * random.nextInt(12) + spoiled;
            case 8: return 800000 + random.nextInt(24) + 100 * spoiled;
            case 9: return 900000 + 1000 * s + random.nextInt(5) + 10 * spoiled;
            default: return random.nextInt(1000000);
        }
    }

    // Writes a whole text, sometimes with one wrong sign, checks it and loads it.
    private int write(int seed, int i) {
        StringBuilder text = new StringBuilder();
        int entries = 1 + random.nextInt(16);
        for (int e = 0; e < entries; e++) {
            text.append(e == 0 ? "" : ";").append(entry());
        }
        if (random.nextInt(2) == 0) {
            int at = random.nextInt(text.length());
            text.setCharAt(at, "rdkwbh;-.0123456789 x".charAt(random.nextInt(21)));
        }
        int calls = 0;
        step(seed, i + calls++, 3, new int[0], 0);
        for (int k = 0; k < text.length() && i + calls < CALLS - 1; k++) {
            step(seed, i + calls++, 2, new int[] {text.charAt(k)}, 0);
        }
        if (random.nextBoolean()) {
            step(seed, i + calls++, 5, new int[0], 0);
        } else {
            step(seed, i + calls++, 4, new int[0], 0);
        }
        return calls;
    }

    private String entry() {
        switch (random.nextInt(8)) {
            case 0: return "r" + textYear() + rising(7, 1);
            case 1: return "d" + random.nextInt(houses) + textYear() + "-" + textYear();
            case 2: return "k" + random.nextInt(4) + textYear();
            case 3: return "h0" + random.nextInt(10) + random.nextInt(3);
            case 4: return "h" + random.nextInt(3) + random.nextInt(4) + random.nextInt(6);
            default: return (random.nextBoolean() ? "w" : "b") + random.nextInt(4)
                    + ".01234567".charAt(random.nextInt(9)) + "0" + random.nextInt(6) + rising(3, 0);
        }
    }

    private int textYear() {
        return base + random.nextInt(width);
    }

    private String rising(int most, int least) {
        StringBuilder digits = new StringBuilder();
        for (int d = 0; d <= most; d++) {
            if (random.nextInt(4) == 0) {
                digits.append(d);
            }
        }
        return digits.length() < least ? "4" : digits.toString();
    }
}
