/** What the tests share: counts wrong answers, watches for exceptions, reads a whole collection. */
final class Check {
    interface Call {
        long run();
    }

    private static int wrong = 0;
    private static int checks = 0;

    private Check() {
    }

    static void same(String what, long got, long want) {
        checks++;
        if (got != want) {
            miss(what + " answered " + got + ", due is " + want);
        }
    }

    static void same(String what, String got, String want) {
        checks++;
        if (!got.equals(want)) {
            miss(what + " answered\n  " + got + "\ndue is\n  " + want);
        }
    }

    static void holds(String what, boolean it) {
        same(what, it ? 1 : 0, 1);
    }

    static void miss(String text) {
        wrong++;
        if (wrong <= 30) {
            System.out.println(text);
        }
    }

    /** The call has to throw just this exception, and to leave the collection x as it is. */
    private static void fails(CordSeals x, String what, Class<?> due, Call call) {
        checks++;
        String before = picture(x);
        String got = "nothing";
        try {
            call.run();
        } catch (RuntimeException e) {
            got = e.getClass().getSimpleName();
        }
        if (!got.equals(due.getSimpleName())) {
            miss(what + " threw " + got + ", due is " + due.getSimpleName());
        }
        same(what + " that throws", picture(x), before);
    }

    static void noSuch(CordSeals x, String what, Call call) {
        fails(x, what, IndexOutOfBoundsException.class, call);
    }

    static void badArgument(CordSeals x, String what, Call call) {
        fails(x, what, IllegalArgumentException.class, call);
    }

    static void badState(CordSeals x, String what, Call call) {
        fails(x, what, IllegalStateException.class, call);
    }

    static void end() {
        System.out.println(checks + " checks, " + wrong + " wrong");
        if (wrong != 0) {
            System.exit(1);
        }
    }

    static void write(CordSeals x, String text) {
        x.clearText();
        for (int i = 0; i < text.length(); i++) {
            x.append(text.charAt(i));
        }
    }

    static CordSeals loaded(String text) {
        CordSeals x = new CordSeals();
        write(x, text);
        x.load();
        return x;
    }

    /** Everything that the face shows without changing anything, but for what needs a year. */
    static String picture(CordSeals x) {
        StringBuilder out = new StringBuilder();
        out.append("e ").append(x.errorPosition());
        for (int what = 0; what <= 8; what++) {
            out.append(' ').append(x.about(what));
        }
        for (int r = 0; r < x.about(0); r++) {
            out.append(" r").append(r);
            for (int what = 0; what <= 2; what++) {
                out.append(' ').append(x.ofReign(r, what));
            }
        }
        for (int d = 0; d < x.about(1); d++) {
            out.append(" d").append(d);
            for (int what = 0; what <= 5; what++) {
                out.append(' ').append(x.ofDie(d, what));
            }
            for (int k = 0; k < x.ofDie(d, 3); k++) {
                out.append(" k").append(x.crackYear(d, k));
            }
        }
        for (int s = 0; s < x.about(2); s++) {
            out.append(" s").append(s);
            for (int what = 0; what <= 7; what++) {
                out.append(' ').append(x.ofSeal(s, what));
            }
            for (int what = 0; what <= 3; what++) {
                out.append(' ').append(x.dated(s, what));
            }
        }
        for (int c = 0; c < 6; c++) {
            out.append(" c").append(c);
            for (int what = 0; what <= 4; what++) {
                out.append(' ').append(x.charter(c, what));
            }
            out.append(' ').append(x.decides(c));
        }
        for (int h = 0; h < 6; h++) {
            out.append(" h").append(h);
            for (int k = 0; k <= 6; k++) {
                out.append(' ').append(x.onShelf(h, k));
            }
        }
        // The settings show only in what would be: with which bubbles how many are fakes.
        for (int material = 0; material <= 1; material++) {
            for (int fakes = 0; fakes <= 24; fakes += 6) {
                out.append(' ').append(x.leastBubbles(material, fakes));
            }
        }
        return out.toString();
    }
}
